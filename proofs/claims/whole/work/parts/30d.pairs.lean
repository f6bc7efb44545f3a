/-! Both sides answer alike while a circuit is built. Printed by gen_30d.py. -/
theorem rw_i {w : cx_W} {k N : Nat} {f : Nat → Int32} (h : w k = ai N f) : rowW w k = f := by unfold rowW; rw [h]; rfl
theorem rw_k {w w2 : cx_W} {k : Nat} (h : w2 k = w k) : rowW w2 k = rowW w k := by unfold rowW; rw [h]
def sN (m0 a b c d e f g h : Nat) : Nat → Nat
  | 0 => m0 | 1 => a | 2 => b | 3 => c | 4 => d | 5 => e | 6 => f | 7 => g | 8 => h | _ => 0
/-- the state of both sides; M: what holds of it when it is mapped -/
def Inv (M : (Nat → Nat) → cx_W → Prop) (w : cx_W) : Prop := ∃ (s : Nat → Nat) (X : Nat → Int32), s 0 ≤ 1 ∧ Shp w ∧ Obj w s X ∧ Bd (rowW w) s ∧ (s 0 = 1 → M s w)
theorem Inv_G {w : cx_W} {s : Nat → Nat} (hS : Shp w) (o1 : w 1 = oGr (nI (s 1))) : GW w (grG (rowW w) s) := ⟨o1, hS.i 2 rfl (by decide), hS.i 3 rfl (by decide), hS.i 4 rfl (by decide)⟩
theorem Inv_C {w : cx_W} {s : Nat → Nat} (hS : Shp w) (o6 : w 6 = oCi (nI (s 2)) (nI (s 3)) (nI (s 4)) (nI (s 5)) (nI (s 7)) (nI (s 8))) : CW w (s 2) (s 3) (s 4) (s 5) (nI (s 7)) (nI (s 8)) (rowW w 7) (rowW w 8) (rowW w 9) (rowW w 10) :=
  ⟨o6, hS.i 7 rfl (by decide), hS.i 8 rfl (by decide), hS.i 9 rfl (by decide), hS.i 10 rfl (by decide)⟩
theorem Inv_L {w : cx_W} {s : Nat → Nat} (hS : Shp w) (o13 : w 13 = oLi (nI (s 6))) : LW w (s 6) (rowW w 14) (rowW w 15) (rowW w 16) (rowW w 17) (rowW w 18) (rowW w 19) :=
  ⟨o13, hS.i 14 rfl (by decide), hS.i 15 rfl (by decide), hS.i 16 rfl (by decide), hS.i 17 rfl (by decide), hS.i 18 rfl (by decide), hS.i 19 rfl (by decide)⟩
theorem P_nodes {M : (Nat → Nat) → cx_W → Prop} {w : cx_W} (h : Inv M w) : PairI 7 160 [] w (Inv M) := by
  have hI := h
  obtain ⟨s, X, hs0, hS, ⟨o0, o1, o6, o13, o20, o30, o36, o40, o45⟩, hB, hM⟩ := h
  obtain ⟨n1, n2, n3, n4, n5, n6, n7, n8, n9⟩ := hB.1
  have e0 : cx_ci (w 0) = some 0 := by rw [o0]; rfl
  have e8 : cx_ci (w 45) = some 8 := by rw [o45]; rfl
  have hG := Inv_G hS o1
  have hC := Inv_C hS o6
  refine ⟨e0, _, c_C_nodes o0 o1, fun r w2 h2 => ?_⟩
  obtain ⟨rfl, rfl⟩ := h2
  exact ⟨e8, _, _, rfl, c_M_nodes o45, fun r2 w3 h3 => ⟨h3.1, h3.2 ▸ hI⟩⟩
theorem P_nodeOf {M : (Nat → Nat) → cx_W → Prop} {w : cx_W} (h : Inv M w) (a : Int32) : PairI 8 161 [.int a] w (Inv M) := by
  have hI := h
  obtain ⟨s, X, hs0, hS, ⟨o0, o1, o6, o13, o20, o30, o36, o40, o45⟩, hB, hM⟩ := h
  obtain ⟨n1, n2, n3, n4, n5, n6, n7, n8, n9⟩ := hB.1
  have e0 : cx_ci (w 0) = some 0 := by rw [o0]; rfl
  have e8 : cx_ci (w 45) = some 8 := by rw [o45]; rfl
  have hG := Inv_G hS o1
  have hC := Inv_C hS o6
  refine ⟨e0, _, c_C_nodeOf a n2 o0 o6 (hS.i 7 rfl (by decide)), fun r w2 h2 => ?_⟩
  obtain ⟨rfl, rfl⟩ := h2
  refine ⟨e8, _, _, rfl, c_M_nodeOf a n2 o45 (hS.i 47 rfl (by decide)), fun r2 w3 h3 => ⟨h3.1.trans ?_, h3.2 ▸ hI⟩⟩
  unfold nodeOfN
  by_cases e : ¬ a < 0 ∧ ¬ nI (s 2) ≤ a
  · rw [if_pos e, if_pos e]
    exact congrArg (fun x => some (Value.int x)) ((hB.2.2.1 _ (isNet_lt (nc := s 2) e (by omega)).1).1).symm
  · rw [if_neg e, if_neg e]
theorem P_part {M : (Nat → Nat) → cx_W → Prop} {w : cx_W} (h : Inv M w) (a b : Int32) : PairI 9 162 [.int a, .int b] w (Inv M) := by
  have hI := h
  obtain ⟨s, X, hs0, hS, ⟨o0, o1, o6, o13, o20, o30, o36, o40, o45⟩, hB, hM⟩ := h
  obtain ⟨n1, n2, n3, n4, n5, n6, n7, n8, n9⟩ := hB.1
  have e0 : cx_ci (w 0) = some 0 := by rw [o0]; rfl
  have e8 : cx_ci (w 45) = some 8 := by rw [o45]; rfl
  have hG := Inv_G hS o1
  have hC := Inv_C hS o6
  refine ⟨e0, _, c_C_part a b n1 o0 hG, fun r w2 h2 => ?_⟩
  obtain ⟨rfl, rfl⟩ := h2
  refine ⟨e8, _, _, rfl, c_M_part (x := [nI (s 2), nI (s 3), nI (s 4), nI (s 5), nI (s 6), nI (s 0), X 7, X 8, X 9]) (G := grH (rowW w2) s) a b n1 ⟨o45, hS.i 56 rfl (by decide), hS.i 57 rfl (by decide), hS.i 58 rfl (by decide), hS.i 59 rfl (by decide)⟩, fun r2 w3 h3 => ⟨h3.1.trans ?_, h3.2 ▸ hI⟩⟩
  have hK := hB.2.1.1
  unfold partN
  by_cases e : ¬ a < 0 ∧ ¬ nI (grG (rowW w2) s).1 ≤ a
  · have e2 : ¬ a < 0 ∧ ¬ nI (grH (rowW w2) s).1 ≤ a := e
    rw [if_pos e, if_pos e2]
    have hj := (isNet_lt (nc := s 1) e (by omega)).1
    obtain ⟨_, _, k2, k3⟩ := hK.2 _ hj
    rw [k2, k3]
  · have e2 : ¬ (¬ a < 0 ∧ ¬ nI (grH (rowW w2) s).1 ≤ a) := e
    rw [if_neg e, if_neg e2]
set_option maxHeartbeats 8000000 in
theorem P_input {M : (Nat → Nat) → cx_W → Prop} {w : cx_W} (h : Inv M w) : PairI 1 153 [] w (Inv M) := by
  have hI := h
  obtain ⟨s, X, hs0, hS, ⟨o0, o1, o6, o13, o20, o30, o36, o40, o45⟩, hB, hM⟩ := h
  obtain ⟨n1, n2, n3, n4, n5, n6, n7, n8, n9⟩ := hB.1
  have e0 : cx_ci (w 0) = some 0 := by rw [o0]; rfl
  have e8 : cx_ci (w 45) = some 8 := by rw [o45]; rfl
  have hG := Inv_G hS o1
  have hC := Inv_C hS o6
  by_cases hf : s 2 = 40 ∨ s 3 = 6 ∨ s 1 = 48
  · refine ⟨e0, _, c_C_input_full o0 hG n1 hC n2 n3 hf, fun r w2 h2 => ?_⟩
    obtain ⟨rfl, rfl⟩ := h2
    exact ⟨e8, _, _, rfl, c_M_input_full o45 n2 n3 n1 hf, fun r2 w3 h3 => ⟨h3.1, h3.2 ▸ hI⟩⟩
  · refine ⟨e0, _, c_C_input o0 hG (hS.i 5 rfl (by decide)) hC (by omega) (by omega) (show s 1 < 48 by omega), fun r w2 h2 => ?_⟩
    obtain ⟨rfl, a0, ⟨a1, a2, a3, a4⟩, a5, ⟨a6, a7, a8, a9, a10⟩, ak⟩ := h2
    have w45 := (ak 45 (by omega)).trans o45
    have w46 := (ak 46 (by omega)).trans (hS.i 46 rfl (by decide))
    have w47 := (ak 47 (by omega)).trans (hS.i 47 rfl (by decide))
    have w48 := (ak 48 (by omega)).trans (hS.i 48 rfl (by decide))
    have w49 := (ak 49 (by omega)).trans (hS.i 49 rfl (by decide))
    have w50 := (ak 50 (by omega)).trans (hS.i 50 rfl (by decide))
    have w56 := (ak 56 (by omega)).trans (hS.i 56 rfl (by decide))
    have w57 := (ak 57 (by omega)).trans (hS.i 57 rfl (by decide))
    have w58 := (ak 58 (by omega)).trans (hS.i 58 rfl (by decide))
    have w59 := (ak 59 (by omega)).trans (hS.i 59 rfl (by decide))
    refine ⟨by rw [w45]; rfl, _, _, rfl, c_M_input w45 w46 w47 w48 w49 w50 w56 w57 w58 w59 (by omega) (by omega) (by omega), fun r2 w3 h3 => ?_⟩
    obtain ⟨rfl, b45, c46, c47, c48, c49, c50, c56, c57, c58, c59, bk⟩ := h3
    have c0 := (bk 0 (by omega)).trans a0
    have c1 := (bk 1 (by omega)).trans a1
    have c2 := (bk 2 (by omega)).trans a2
    have c3 := (bk 3 (by omega)).trans a3
    have c4 := (bk 4 (by omega)).trans a4
    have c5 := (bk 5 (by omega)).trans a5
    have c6 := (bk 6 (by omega)).trans a6
    have c7 := (bk 7 (by omega)).trans a7
    have c8 := (bk 8 (by omega)).trans a8
    have c9 := (bk 9 (by omega)).trans a9
    have c10 := (bk 10 (by omega)).trans a10
    have c13 := (bk 13 (by omega)).trans ((ak 13 (by omega)).trans o13)

    refine ⟨rfl, sN 0 (s 1 + 1) (s 2 + 1) (s 3 + 1) (s 4) (s 5) (s 6) (s 7) (s 7), X, Nat.zero_le _, hS.upd [0, 1, 2, 3, 4, 5, 6, 7, 8, 9, 10, 45, 46, 47, 48, 49, 50, 56, 57, 58, 59] ?_ ?_, ⟨c0, c1, c6, c13, (bk 20 (by omega)).trans ((ak 20 (by omega)).trans o20), (bk 30 (by omega)).trans ((ak 30 (by omega)).trans o30), (bk 36 (by omega)).trans ((ak 36 (by omega)).trans o36), (bk 40 (by omega)).trans ((ak 40 (by omega)).trans o40), b45⟩, ?_, fun z => absurd z (by show ¬ (0 : Nat) = 1; decide)⟩
    · intro k hk
      simp only [List.mem_cons, List.not_mem_nil, or_false, not_or] at hk
      exact (bk k (by omega)).trans (ak k (by omega))
    · intro k hk
      simp only [List.mem_cons, List.not_mem_nil, or_false] at hk
      rcases hk with rfl | rfl | rfl | rfl | rfl | rfl | rfl | rfl | rfl | rfl | rfl | rfl | rfl | rfl | rfl | rfl | rfl | rfl | rfl | rfl | rfl
      · exact okR_o rfl rfl rfl
      · exact okR_o rfl rfl rfl
      · exact okR_i c2 rfl rfl rfl
      · exact okR_i c3 rfl rfl rfl
      · exact okR_i c4 rfl rfl rfl
      · exact okR_i c5 rfl rfl rfl
      · exact okR_o rfl rfl rfl
      · exact okR_i c7 rfl rfl rfl
      · exact okR_i c8 rfl rfl rfl
      · exact okR_i c9 rfl rfl rfl
      · exact okR_i c10 rfl rfl rfl
      · exact okR_o rfl rfl rfl
      · exact okR_i c46 rfl rfl rfl
      · exact okR_i c47 rfl rfl rfl
      · exact okR_i c48 rfl rfl rfl
      · exact okR_i c49 rfl rfl rfl
      · exact okR_i c50 rfl rfl rfl
      · exact okR_i c56 rfl rfl rfl
      · exact okR_i c57 rfl rfl rfl
      · exact okR_i c58 rfl rfl rfl
      · exact okR_i c59 rfl rfl rfl
    · refine Bd_leaf (κ := 0) (x8 := -1) (x48 := 0) (oo := s 3) hB (.inl rfl) (by omega) (by omega) rfl rfl rfl rfl rfl (rw_i c2) (rw_i c3) (rw_i c4) (rw_i c5) (rw_i c7) (rw_i c8) (fun l _ => by rw [rw_i c9]) (rw_i c10) (rw_i c46) (rw_i c47) (rw_i c48) (fun j hj => by rw [rw_i c49, rw_i c48]; exact if_pos hj) (rw_i c50) (rw_k ((bk 51 (by omega)).trans (ak 51 (by omega)))) (rw_k ((bk 52 (by omega)).trans (ak 52 (by omega)))) (rw_k ((bk 53 (by omega)).trans (ak 53 (by omega)))) (rw_k ((bk 54 (by omega)).trans (ak 54 (by omega)))) (rw_i c56) (rw_i c57) (rw_i c58) (rw_i c59) (rw_k ((bk 60 (by omega)).trans (ak 60 (by omega)))) (fun k z => by unfold cellK at z; rcases z with rfl | rfl | rfl | rfl | rfl | rfl | rfl | rfl | rfl <;> exact rw_k ((bk _ (by omega)).trans (ak _ (by omega)))) (.inl ⟨rfl, by omega, rfl, rfl, rfl, rfl, rfl, rfl⟩)
set_option maxHeartbeats 8000000 in
theorem P_latch {M : (Nat → Nat) → cx_W → Prop} {w : cx_W} (h : Inv M w) (a : Int32) : PairI 2 154 [.int a] w (Inv M) := by
  have hI := h
  obtain ⟨s, X, hs0, hS, ⟨o0, o1, o6, o13, o20, o30, o36, o40, o45⟩, hB, hM⟩ := h
  obtain ⟨n1, n2, n3, n4, n5, n6, n7, n8, n9⟩ := hB.1
  have e0 : cx_ci (w 0) = some 0 := by rw [o0]; rfl
  have e8 : cx_ci (w 45) = some 8 := by rw [o45]; rfl
  have hG := Inv_G hS o1
  have hC := Inv_C hS o6
  by_cases ha : a = 0 ∨ a = 1
  rotate_left
  · refine ⟨e0, _, c_C_latch_bad a ha, fun r w2 h2 => ?_⟩
    obtain ⟨rfl, rfl⟩ := h2
    exact ⟨e8, _, _, rfl, c_M_latch_bad a o45 ha, fun r2 w3 h3 => ⟨h3.1, h3.2 ▸ hI⟩⟩
  obtain ⟨av, hav2, hav⟩ : ∃ av : Nat, av < 2 ∧ a = nI av := ha.elim (fun z => ⟨0, by omega, z⟩) (fun z => ⟨1, by omega, z⟩)
  by_cases hf : s 2 = 40 ∨ s 4 = 6 ∨ s 1 = 48
  · refine ⟨e0, _, c_C_latch_full a ha o0 hG n1 hC n2 n4 hf, fun r w2 h2 => ?_⟩
    obtain ⟨rfl, rfl⟩ := h2
    exact ⟨e8, _, _, rfl, c_M_latch_full a ha o45 n2 n4 n1 hf, fun r2 w3 h3 => ⟨h3.1, h3.2 ▸ hI⟩⟩
  · refine ⟨e0, _, c_C_latch a ha o0 hG (hS.i 5 rfl (by decide)) hC (by omega) (by omega) (show s 1 < 48 by omega), fun r w2 h2 => ?_⟩
    obtain ⟨rfl, a0, ⟨a1, a2, a3, a4⟩, a5, ⟨a6, a7, a8, a9, a10⟩, ak⟩ := h2
    have w45 := (ak 45 (by omega)).trans o45
    have w46 := (ak 46 (by omega)).trans (hS.i 46 rfl (by decide))
    have w47 := (ak 47 (by omega)).trans (hS.i 47 rfl (by decide))
    have w48 := (ak 48 (by omega)).trans (hS.i 48 rfl (by decide))
    have w49 := (ak 49 (by omega)).trans (hS.i 49 rfl (by decide))
    have w50 := (ak 50 (by omega)).trans (hS.i 50 rfl (by decide))
    have w56 := (ak 56 (by omega)).trans (hS.i 56 rfl (by decide))
    have w57 := (ak 57 (by omega)).trans (hS.i 57 rfl (by decide))
    have w58 := (ak 58 (by omega)).trans (hS.i 58 rfl (by decide))
    have w59 := (ak 59 (by omega)).trans (hS.i 59 rfl (by decide))
    refine ⟨by rw [w45]; rfl, _, _, rfl, c_M_latch a ha w45 w46 w47 w48 w49 w50 w56 w57 w58 w59 (by omega) (by omega) (by omega), fun r2 w3 h3 => ?_⟩
    obtain ⟨rfl, b45, c46, c47, c48, c49, c50, c56, c57, c58, c59, bk⟩ := h3
    have c0 := (bk 0 (by omega)).trans a0
    have c1 := (bk 1 (by omega)).trans a1
    have c2 := (bk 2 (by omega)).trans a2
    have c3 := (bk 3 (by omega)).trans a3
    have c4 := (bk 4 (by omega)).trans a4
    have c5 := (bk 5 (by omega)).trans a5
    have c6 := (bk 6 (by omega)).trans a6
    have c7 := (bk 7 (by omega)).trans a7
    have c8 := (bk 8 (by omega)).trans a8
    have c9 := (bk 9 (by omega)).trans a9
    have c10 := (bk 10 (by omega)).trans a10
    have c13 := (bk 13 (by omega)).trans ((ak 13 (by omega)).trans o13)
    have hb : nI (s 7) ||| a <<< (nI (s 4) &&& 31) = nI (s 7 + av * 2 ^ s 4) := by
      have hp : 2 ^ s 4 ≤ 2 ^ 6 := Nat.pow_le_pow_right (by decide) n4
      have : av * 2 ^ s 4 ≤ 1 * 2 ^ s 4 := Nat.mul_le_mul_right _ (by omega)
      rw [hav, shlN (by omega) (by omega), or_add' av (s 4) n7]
    rw [hb] at c6
    refine ⟨rfl, sN 0 (s 1 + 1) (s 2 + 1) (s 3) (s 4 + 1) (s 5) (s 6) (s 7 + av * 2 ^ s 4) (s 7 + av * 2 ^ s 4), X, Nat.zero_le _, hS.upd [0, 1, 2, 3, 4, 5, 6, 7, 8, 9, 10, 45, 46, 47, 48, 49, 50, 56, 57, 58, 59] ?_ ?_, ⟨c0, c1, c6, c13, (bk 20 (by omega)).trans ((ak 20 (by omega)).trans o20), (bk 30 (by omega)).trans ((ak 30 (by omega)).trans o30), (bk 36 (by omega)).trans ((ak 36 (by omega)).trans o36), (bk 40 (by omega)).trans ((ak 40 (by omega)).trans o40), b45⟩, ?_, fun z => absurd z (by show ¬ (0 : Nat) = 1; decide)⟩
    · intro k hk
      simp only [List.mem_cons, List.not_mem_nil, or_false, not_or] at hk
      exact (bk k (by omega)).trans (ak k (by omega))
    · intro k hk
      simp only [List.mem_cons, List.not_mem_nil, or_false] at hk
      rcases hk with rfl | rfl | rfl | rfl | rfl | rfl | rfl | rfl | rfl | rfl | rfl | rfl | rfl | rfl | rfl | rfl | rfl | rfl | rfl | rfl | rfl
      · exact okR_o rfl rfl rfl
      · exact okR_o rfl rfl rfl
      · exact okR_i c2 rfl rfl rfl
      · exact okR_i c3 rfl rfl rfl
      · exact okR_i c4 rfl rfl rfl
      · exact okR_i c5 rfl rfl rfl
      · exact okR_o rfl rfl rfl
      · exact okR_i c7 rfl rfl rfl
      · exact okR_i c8 rfl rfl rfl
      · exact okR_i c9 rfl rfl rfl
      · exact okR_i c10 rfl rfl rfl
      · exact okR_o rfl rfl rfl
      · exact okR_i c46 rfl rfl rfl
      · exact okR_i c47 rfl rfl rfl
      · exact okR_i c48 rfl rfl rfl
      · exact okR_i c49 rfl rfl rfl
      · exact okR_i c50 rfl rfl rfl
      · exact okR_i c56 rfl rfl rfl
      · exact okR_i c57 rfl rfl rfl
      · exact okR_i c58 rfl rfl rfl
      · exact okR_i c59 rfl rfl rfl
    · refine Bd_leaf (κ := 1) (x8 := nI (s 4)) (x48 := a) (oo := s 4) hB (.inr rfl) (by omega) (by omega) rfl rfl rfl rfl rfl (rw_i c2) (rw_i c3) (rw_i c4) (rw_i c5) (rw_i c7) (rw_i c8) (fun l hl => by rw [rw_i c9, pk_un (by omega)]) (rw_i c10) (rw_i c46) (rw_i c47) (rw_i c48) (fun j hj => by rw [rw_i c49, rw_i c48]; exact if_pos hj) (rw_i c50) (rw_k ((bk 51 (by omega)).trans (ak 51 (by omega)))) (rw_k ((bk 52 (by omega)).trans (ak 52 (by omega)))) (rw_k ((bk 53 (by omega)).trans (ak 53 (by omega)))) (rw_k ((bk 54 (by omega)).trans (ak 54 (by omega)))) (rw_i c56) (rw_i c57) (rw_i c58) (rw_i c59) (rw_k ((bk 60 (by omega)).trans (ak 60 (by omega)))) (fun k z => by unfold cellK at z; rcases z with rfl | rfl | rfl | rfl | rfl | rfl | rfl | rfl | rfl <;> exact rw_k ((bk _ (by omega)).trans (ak _ (by omega)))) (.inr ⟨rfl, by omega, rfl, rfl, ⟨av, hav2, hav, rfl⟩, rfl, rfl, by rw [rw_i c9, pk_us]⟩)
set_option maxHeartbeats 8000000 in
theorem P_output {M : (Nat → Nat) → cx_W → Prop} {w : cx_W} (h : Inv M w) (a : Int32) : PairI 5 157 [.int a] w (Inv M) := by
  have hI := h
  obtain ⟨s, X, hs0, hS, ⟨o0, o1, o6, o13, o20, o30, o36, o40, o45⟩, hB, hM⟩ := h
  obtain ⟨n1, n2, n3, n4, n5, n6, n7, n8, n9⟩ := hB.1
  have e0 : cx_ci (w 0) = some 0 := by rw [o0]; rfl
  have e8 : cx_ci (w 45) = some 8 := by rw [o45]; rfl
  have hG := Inv_G hS o1
  have hC := Inv_C hS o6
  by_cases ha : isNet (s 2) a
  rotate_left
  · refine ⟨e0, _, c_C_output_bad a ha o0 hC, fun r w2 h2 => ?_⟩
    obtain ⟨rfl, rfl⟩ := h2
    exact ⟨e8, _, _, rfl, c_M_output_bad a ha o45, fun r2 w3 h3 => ⟨h3.1, h3.2 ▸ hI⟩⟩
  by_cases hf : s 5 = 4
  · rw [hf] at hC o45
    refine ⟨e0, _, c_C_output_full a ha o0 hC, fun r w2 h2 => ?_⟩
    obtain ⟨rfl, rfl⟩ := h2
    exact ⟨e8, _, _, rfl, c_M_output_full a ha o45, fun r2 w3 h3 => ⟨h3.1, h3.2 ▸ hI⟩⟩
  · obtain ⟨al, ae⟩ := ha.lt n2
    refine ⟨e0, _, c_C_output a ha (by omega) o0 hC, fun r w2 h2 => ?_⟩
    obtain ⟨rfl, a0, ⟨a6, a7, a8, a9, a10⟩, ak⟩ := h2
    have w45 := (ak 45 (by omega)).trans o45
    have w48 := (ak 48 (by omega)).trans (hS.i 48 rfl (by decide))
    have w49 := (ak 49 (by omega)).trans (hS.i 49 rfl (by decide))
    have w60 := (ak 60 (by omega)).trans (hS.i 60 rfl (by decide))
    refine ⟨by rw [w45]; rfl, _, _, rfl, c_M_output a ha n2 (by omega) w45 w48 w49 w60, fun r2 w3 h3 => ?_⟩
    obtain ⟨rfl, b45, c49, c60, bk⟩ := h3
    have c0 := (bk 0 (by omega)).trans a0
    have c1 := (bk 1 (by omega)).trans ((ak 1 (by omega)).trans o1)
    have c6 := (bk 6 (by omega)).trans a6
    have c7 := (bk 7 (by omega)).trans a7
    have c8 := (bk 8 (by omega)).trans a8
    have c9 := (bk 9 (by omega)).trans a9
    have c10 := (bk 10 (by omega)).trans a10
    have c13 := (bk 13 (by omega)).trans ((ak 13 (by omega)).trans o13)
    rw [ae] at c10 c60
    refine ⟨rfl, sN 0 (s 1) (s 2) (s 3) (s 4) (s 5 + 1) (s 6) (s 7) (s 7), X, Nat.zero_le _, hS.upd [0, 6, 7, 8, 9, 10, 45, 49, 60] ?_ ?_, ⟨c0, c1, c6, c13, (bk 20 (by omega)).trans ((ak 20 (by omega)).trans o20), (bk 30 (by omega)).trans ((ak 30 (by omega)).trans o30), (bk 36 (by omega)).trans ((ak 36 (by omega)).trans o36), (bk 40 (by omega)).trans ((ak 40 (by omega)).trans o40), b45⟩, ?_, fun z => absurd z (by show ¬ (0 : Nat) = 1; decide)⟩
    · intro k hk
      simp only [List.mem_cons, List.not_mem_nil, or_false, not_or] at hk
      exact (bk k (by omega)).trans (ak k (by omega))
    · intro k hk
      simp only [List.mem_cons, List.not_mem_nil, or_false] at hk
      rcases hk with rfl | rfl | rfl | rfl | rfl | rfl | rfl | rfl | rfl
      · exact okR_o rfl rfl rfl
      · exact okR_o rfl rfl rfl
      · exact okR_i c7 rfl rfl rfl
      · exact okR_i c8 rfl rfl rfl
      · exact okR_i c9 rfl rfl rfl
      · exact okR_i c10 rfl rfl rfl
      · exact okR_o rfl rfl rfl
      · exact okR_i c49 rfl rfl rfl
      · exact okR_i c60 rfl rfl rfl
    · exact Bd_output (a := a.toNatClampNeg) hB al (by omega) rfl rfl rfl rfl rfl rfl rfl rfl (fun k z => by rcases z with rfl | rfl | rfl | rfl | rfl | rfl | rfl | rfl | rfl | rfl | rfl | rfl | rfl | rfl | rfl | rfl | rfl | rfl | rfl <;> first | exact rw_k ((bk _ (by omega)).trans (ak _ (by omega))) | exact rw_i c7 | exact rw_i c8 | exact rw_i c9) (fun j hj => by rw [rw_i c49]; exact if_pos hj) (rw_i c10) (rw_i c60) (fun k z => by unfold cellK at z; rcases z with rfl | rfl | rfl | rfl | rfl | rfl | rfl | rfl | rfl <;> exact rw_k ((bk _ (by omega)).trans (ak _ (by omega))))
theorem num_in {lo hi : Nat} {a : Int32} (hl : lo ≤ hi) (hh : hi < 2 ^ 31) (h1 : ¬ a < nI lo) (h2 : ¬ nI hi < a) : ∃ n : Nat, lo ≤ n ∧ n ≤ hi ∧ a = nI n := by
  have e : ∀ m : Nat, m < 2 ^ 31 → (nI m).toInt = m := fun m hm => Int32.toInt_ofNat_of_lt hm
  rw [Int32.lt_iff_toInt_lt, e lo (by omega)] at h1
  rw [Int32.lt_iff_toInt_lt, e hi hh] at h2
  refine ⟨a.toInt.toNat, by omega, by omega, ?_⟩
  apply Int32.toInt_inj.mp
  rw [e _ (by omega)]
  omega
set_option maxHeartbeats 8000000 in
theorem P_cell {M : (Nat → Nat) → cx_W → Prop} {w : cx_W} (h : Inv M w) (p a d : Int32) : PairI 6 159 [.int p, .int a, .int d] w (Inv M) := by
  have hI := h
  obtain ⟨s, X, hs0, hS, ⟨o0, o1, o6, o13, o20, o30, o36, o40, o45⟩, hB, hM⟩ := h
  obtain ⟨n1, n2, n3, n4, n5, n6, n7, n8, n9⟩ := hB.1
  have e0 : cx_ci (w 0) = some 0 := by rw [o0]; rfl
  have e8 : cx_ci (w 45) = some 8 := by rw [o45]; rfl
  have hG := Inv_G hS o1
  have hC := Inv_C hS o6
  have hL := Inv_L hS o13
  by_cases ha : cOK p a d
  rotate_left
  · refine ⟨e0, _, c_C_cell_bad p a d ha o0 o13, fun r w2 h2 => ?_⟩
    obtain ⟨rfl, rfl⟩ := h2
    exact ⟨e8, _, _, rfl, c_M_cell_bad p a d ha e8, fun r2 w3 h3 => ⟨h3.1, h3.2 ▸ hI⟩⟩
  by_cases hf : s 6 = 8
  · rw [hf] at o13 o45
    refine ⟨e0, _, c_C_cell_full p a d ha o0 o13, fun r w2 h2 => ?_⟩
    obtain ⟨rfl, rfl⟩ := h2
    exact ⟨e8, _, _, rfl, c_M_cell_full p a d ha o45, fun r2 w3 h3 => ⟨h3.1, h3.2 ▸ hI⟩⟩
  · obtain ⟨q, hq, rfl⟩ := pat_q ha.1
    obtain ⟨an, an1, an2, rfl⟩ := num_in (lo := 1) (hi := 1000) (a := a) (by decide) (by decide) ha.2.1 ha.2.2.1
    obtain ⟨dn, dn1, dn2, rfl⟩ := num_in (lo := 0) (hi := 1000) (a := d) (by decide) (by decide) ha.2.2.2.1 ha.2.2.2.2
    refine ⟨e0, _, c_C_cell (nI an) (nI dn) hq ha o0 hL (by omega) hC, fun r w2 h2 => ?_⟩
    obtain ⟨rfl, a0, ⟨a13, a14, a15, a16, a17, a18, a19⟩, ⟨a6, a7, a8, a9, a10⟩, ak⟩ := h2
    have w45 := (ak 45 (by omega)).trans o45
    have w48 := (ak 48 (by omega)).trans (hS.i 48 rfl (by decide))
    have w49 := (ak 49 (by omega)).trans (hS.i 49 rfl (by decide))
    have w61 := (ak 61 (by omega)).trans (hS.i 61 rfl (by decide))
    have w62 := (ak 62 (by omega)).trans (hS.i 62 rfl (by decide))
    have w63 := (ak 63 (by omega)).trans (hS.i 63 rfl (by decide))
    refine ⟨by rw [w45]; rfl, _, _, rfl, c_M_cell (nI q) (nI an) (nI dn) ha n2 (by omega) w45 w48 w49 w61 w62 w63, fun r2 w3 h3 => ?_⟩
    obtain ⟨rfl, b45, c49, c61, c62, c63, bk⟩ := h3
    have c0 := (bk 0 (by omega)).trans a0
    have c1 := (bk 1 (by omega)).trans ((ak 1 (by omega)).trans o1)
    have c6 := (bk 6 (by omega)).trans a6
    have c7 := (bk 7 (by omega)).trans a7
    have c8 := (bk 8 (by omega)).trans a8
    have c9 := (bk 9 (by omega)).trans a9
    have c10 := (bk 10 (by omega)).trans a10
    have c13 := (bk 13 (by omega)).trans a13
    have c14 := (bk 14 (by omega)).trans a14
    have c15 := (bk 15 (by omega)).trans a15
    have c16 := (bk 16 (by omega)).trans a16
    have c17 := (bk 17 (by omega)).trans a17
    have c18 := (bk 18 (by omega)).trans a18
    have c19 := (bk 19 (by omega)).trans a19
    refine ⟨rfl, sN 0 (s 1) (s 2) (s 3) (s 4) (s 5) (s 6 + 1) (s 7) (s 7), X, Nat.zero_le _, hS.upd [0, 6, 7, 8, 9, 10, 13, 14, 15, 16, 17, 18, 19, 45, 49, 61, 62, 63] ?_ ?_, ⟨c0, c1, c6, c13, (bk 20 (by omega)).trans ((ak 20 (by omega)).trans o20), (bk 30 (by omega)).trans ((ak 30 (by omega)).trans o30), (bk 36 (by omega)).trans ((ak 36 (by omega)).trans o36), (bk 40 (by omega)).trans ((ak 40 (by omega)).trans o40), b45⟩, ?_, fun z => absurd z (by show ¬ (0 : Nat) = 1; decide)⟩
    · intro k hk
      simp only [List.mem_cons, List.not_mem_nil, or_false, not_or] at hk
      exact (bk k (by omega)).trans (ak k (by omega))
    · intro k hk
      simp only [List.mem_cons, List.not_mem_nil, or_false] at hk
      rcases hk with rfl | rfl | rfl | rfl | rfl | rfl | rfl | rfl | rfl | rfl | rfl | rfl | rfl | rfl | rfl | rfl | rfl | rfl
      · exact okR_o rfl rfl rfl
      · exact okR_o rfl rfl rfl
      · exact okR_i c7 rfl rfl rfl
      · exact okR_i c8 rfl rfl rfl
      · exact okR_i c9 rfl rfl rfl
      · exact okR_i c10 rfl rfl rfl
      · exact okR_o rfl rfl rfl
      · exact okR_i c14 rfl rfl rfl
      · exact okR_i c15 rfl rfl rfl
      · exact okR_i c16 rfl rfl rfl
      · exact okR_i c17 rfl rfl rfl
      · exact okR_i c18 rfl rfl rfl
      · exact okR_i c19 rfl rfl rfl
      · exact okR_o rfl rfl rfl
      · exact okR_i c49 rfl rfl rfl
      · exact okR_i c61 rfl rfl rfl
      · exact okR_i c62 rfl rfl rfl
      · exact okR_i c63 rfl rfl rfl
    · exact Bd_cell (q := q) (a := an) (d := dn) hB hq ⟨an1, an2⟩ dn2 (by omega) rfl rfl rfl rfl rfl rfl rfl rfl (fun k z => by rcases z with rfl | rfl | rfl | rfl | rfl | rfl | rfl | rfl | rfl | rfl | rfl | rfl | rfl | rfl | rfl | rfl | rfl | rfl | rfl <;> first | exact rw_k ((bk _ (by omega)).trans (ak _ (by omega))) | exact rw_i c7 | exact rw_i c8 | exact rw_i c9) (fun j hj => by rw [rw_i c49]; exact if_pos hj) (rw_i c10) (rw_k ((bk 60 (by omega)).trans (ak 60 (by omega)))) (rw_i c14) (rw_i c15) (rw_i c16) (rw_i c17) (rw_i c18) (rw_i c19) (rw_i c61) (rw_i c62) (rw_i c63)
set_option maxHeartbeats 8000000 in
theorem P_drive {M : (Nat → Nat) → cx_W → Prop} {w : cx_W} (h : Inv M w) (a b : Int32) : PairI 4 156 [.int a, .int b] w (Inv M) := by
  have hI := h
  obtain ⟨s, X, hs0, hS, ⟨o0, o1, o6, o13, o20, o30, o36, o40, o45⟩, hB, hM⟩ := h
  obtain ⟨n1, n2, n3, n4, n5, n6, n7, n8, n9⟩ := hB.1
  have e0 : cx_ci (w 0) = some 0 := by rw [o0]; rfl
  have e8 : cx_ci (w 45) = some 8 := by rw [o45]; rfl
  have hG := Inv_G hS o1
  have hC := Inv_C hS o6
  have same : ∀ i, i < s 2 → (¬ rowW w 8 i = -1 ↔ rowW w 46 i = 1) := fun i hi => by
    have hN := hB.2.2.1 i hi
    by_cases e : rowW w 46 i = 1
    · obtain ⟨l, l1, l2, _⟩ := (hN.la e).2.1
      refine ⟨fun _ => e, fun _ => ?_⟩
      rw [l2]
      exact fun z => absurd (z ▸ nI_pos' (by omega) : (0 : Int32) ≤ -1) (by decide)
    · exact ⟨fun z => absurd (hN.no e).1 z, fun z => absurd z e⟩
  by_cases ha : isNet (s 2) a ∧ rowW w 46 a.toNatClampNeg = 1 ∧ isNet (s 2) b
  rotate_left
  · have ha2 : ¬ (isNet (s 2) a ∧ ¬ rowW w 8 a.toNatClampNeg = -1 ∧ isNet (s 2) b) := fun ⟨z1, z2, z3⟩ => ha ⟨z1, (same _ (z1.lt n2).1).mp z2, z3⟩
    refine ⟨e0, _, c_C_drive_bad a b n2 ha2 o0 hC, fun r w2 h2 => ?_⟩
    obtain ⟨rfl, rfl⟩ := h2
    exact ⟨e8, _, _, rfl, c_M_drive_bad a b n2 ha o45 (hS.i 46 rfl (by decide)), fun r2 w3 h3 => ⟨h3.1, h3.2 ▸ hI⟩⟩
  · obtain ⟨ha, hl, hb⟩ := ha
    obtain ⟨al, ae⟩ := ha.lt n2
    obtain ⟨bl, be⟩ := hb.lt n2
    have hLa := (hB.2.2.1 _ al).la hl
    obtain ⟨l, l1, l2, l3, l4, l5, l6⟩ := hLa.2.1
    refine ⟨e0, _, c_C_drive a b n2 ha l2 (by omega) hb o0 hC, fun r w2 h2 => ?_⟩
    obtain ⟨rfl, a0, ⟨a6, a7, a8, a9, a10⟩, ak⟩ := h2
    have w45 := (ak 45 (by omega)).trans o45
    have w46 := (ak 46 (by omega)).trans (hS.i 46 rfl (by decide))
    have w48 := (ak 48 (by omega)).trans (hS.i 48 rfl (by decide))
    have w49 := (ak 49 (by omega)).trans (hS.i 49 rfl (by decide))
    have w50 := (ak 50 (by omega)).trans (hS.i 50 rfl (by decide))
    refine ⟨by rw [w45]; rfl, _, _, rfl, c_M_drive a b n2 ha hl hb w45 w46 w48 w49 w50, fun r2 w3 h3 => ?_⟩
    obtain ⟨rfl, b45, c49, c50, bk⟩ := h3
    have c0 := (bk 0 (by omega)).trans a0
    have c1 := (bk 1 (by omega)).trans ((ak 1 (by omega)).trans o1)
    have c6 := (bk 6 (by omega)).trans a6
    have c7 := (bk 7 (by omega)).trans a7
    have c8 := (bk 8 (by omega)).trans a8
    have c9 := (bk 9 (by omega)).trans a9
    have c10 := (bk 10 (by omega)).trans a10
    have c13 := (bk 13 (by omega)).trans ((ak 13 (by omega)).trans o13)
    refine ⟨rfl, sN 0 (s 1) (s 2) (s 3) (s 4) (s 5) (s 6) (s 7) (s 7), X, Nat.zero_le _, hS.upd [0, 6, 7, 8, 9, 10, 45, 49, 50] ?_ ?_, ⟨c0, c1, c6, c13, (bk 20 (by omega)).trans ((ak 20 (by omega)).trans o20), (bk 30 (by omega)).trans ((ak 30 (by omega)).trans o30), (bk 36 (by omega)).trans ((ak 36 (by omega)).trans o36), (bk 40 (by omega)).trans ((ak 40 (by omega)).trans o40), b45⟩, ?_, fun z => absurd z (by show ¬ (0 : Nat) = 1; decide)⟩
    · intro k hk
      simp only [List.mem_cons, List.not_mem_nil, or_false, not_or] at hk
      exact (bk k (by omega)).trans (ak k (by omega))
    · intro k hk
      simp only [List.mem_cons, List.not_mem_nil, or_false] at hk
      rcases hk with rfl | rfl | rfl | rfl | rfl | rfl | rfl | rfl | rfl
      · exact okR_o rfl rfl rfl
      · exact okR_o rfl rfl rfl
      · exact okR_i c7 rfl rfl rfl
      · exact okR_i c8 rfl rfl rfl
      · exact okR_i c9 rfl rfl rfl
      · exact okR_i c10 rfl rfl rfl
      · exact okR_o rfl rfl rfl
      · exact okR_i c49 rfl rfl rfl
      · exact okR_i c50 rfl rfl rfl
    · refine Bd_now hB rfl rfl rfl rfl rfl rfl rfl n7 (fun k z => by rcases z with rfl | rfl | rfl | rfl | rfl | rfl | rfl | rfl | rfl | rfl | rfl | rfl | rfl | rfl | rfl | rfl | rfl | rfl | rfl <;> first | exact rw_k ((bk _ (by omega)).trans (ak _ (by omega))) | exact rw_i c7 | exact rw_i c8 | exact rw_i c10) (fun k z => by unfold cellK at z; rcases z with rfl | rfl | rfl | rfl | rfl | rfl | rfl | rfl | rfl <;> exact rw_k ((bk _ (by omega)).trans (ak _ (by omega)))) (fun j hj => ?_) (fun i hi => ⟨fun z => ?_, fun z j hj e => ⟨?_, ?_⟩⟩)
      · rw [rw_i c9]
        by_cases e : j = l
        · rw [e, pk_us, be]; exact .inr ⟨_, bl, rfl⟩
        · rw [pk_un e]; exact (hB.2.2.2.2.1 j hj).2
      · rw [rw_i c49]; exact (if_pos hi).trans ((hB.2.2.1 i hi).no z).2.1
      · rw [rw_i c49]
        refine (if_pos hi).trans ?_
        obtain ⟨j2, q1, q2, q3, q4, q5, q6⟩ := ((hB.2.2.1 i hi).la z).2.1
        have : j = j2 := (nI_eq (by omega) (by omega)).mp (e.symm.trans q2)
        rw [this]; exact q4
      · rw [rw_i c9, rw_i c50]
        obtain ⟨j2, q1, q2, q3, q4, q5, q6⟩ := ((hB.2.2.1 i hi).la z).2.1
        have ej : j = j2 := (nI_eq (by omega) (by omega)).mp (e.symm.trans q2)
        by_cases ei : i = a.toNatClampNeg
        · have el : j = l := (nI_eq (by omega) (by omega)).mp (e.symm.trans (by rw [ei]; exact l2))
          rw [el, ei, pk_us, pk_us]
        · have el : ¬ j = l := fun y => ei (hB.2.2.2.2.2.1 i _ hi al z hl (by rw [e, y, l2]))
          rw [pk_un el, pk_un ei, ej]; exact q3
