/-! Both sides answer alike: function. Printed by gen_30d.py. -/
theorem WFG_H {G H : Gr} (hK : KR G H) (hW : WFG 2 3 G) : WFG 3 2 H := by
  obtain ⟨k1, k2⟩ := hK
  refine ⟨by rw [← k1]; exact hW.1, fun j hj => ?_⟩
  rw [← k1] at hj
  obtain ⟨y1, y2, y3, y4⟩ := k2 j hj
  obtain ⟨w1, w2⟩ := hW.2 j hj
  rw [y2, y3, y4]
  rcases y1 with z | z | z | z
  · rw [z]; exact ⟨fun q => absurd q (by decide), fun q => absurd q (by decide)⟩
  · rw [z]; exact ⟨fun q => absurd q (by decide), fun q => absurd q (by decide)⟩
  · rw [z]; exact ⟨fun _ => w1 z, fun q => absurd q (by decide)⟩
  · rw [z]; exact ⟨fun q => absurd q (by decide), fun _ => w2 z⟩
theorem tab_num {t x : Int32} {N : Nat} (hx : x = nI N) (hN : N < 2 ^ 31) (h1 : 0 < t) (h2 : t < x) : ∃ n : Nat, 0 < n ∧ n < N ∧ t = nI n := by
  have e : ∀ m : Nat, m < 2 ^ 31 → (nI m).toInt = m := fun m hm => Int32.toInt_ofNat_of_lt hm
  rw [hx, Int32.lt_iff_toInt_lt, e N hN] at h2
  rw [Int32.lt_iff_toInt_lt] at h1
  have h1 : (0 : Int) < t.toInt := h1
  refine ⟨t.toInt.toNat, by omega, by omega, ?_⟩
  apply Int32.toInt_inj.mp
  rw [e _ (by omega)]
  omega
set_option maxHeartbeats 8000000 in
theorem P_function1 {M : (Nat → Nat) → cx_W → Prop} {w : cx_W} (h : Inv M w) {s : Nat → Nat} {X : Nat → Int32} (hs0 : s 0 ≤ 1) (hS : Shp w) (hO : Obj w s X) (hB : Bd (rowW w) s) {i0 tn : Nat} (j0 : i0 < s 2) (ht0 : 0 < tn) (ht : tn < 3) : PairI 3 155 [ .int (nI i0), .int (-1), .int (-1), .int (nI tn)] w (Inv M) := by
  have hI := h
  obtain ⟨o0, o1, o6, o13, o20, o30, o36, o40, o45⟩ := hO
  obtain ⟨n1, n2, n3, n4, n5, n6, n7, n8, n9⟩ := hB.1
  have e0 : cx_ci (w 0) = some 0 := by rw [o0]; rfl
  have e8 : cx_ci (w 45) = some 8 := by rw [o45]; rfl
  have hG := Inv_G hS o1
  have hC := Inv_C hS o6
  have k0 : (nI i0).toNatClampNeg = i0 := nI_clamp (by omega)
  have m0 : isNet (s 2) (nI i0) := ⟨Int32.not_lt.mpr (nI_pos' (by omega)), Int32.not_le.mpr (nI_lt j0 (by omega))⟩
  have z0 : isN (s 1) (rowW w 7 i0) := (hB.2.2.1 i0 j0).2.1
  have y0 : rowW w 7 i0 = rowW w 47 i0 := (hB.2.2.1 i0 j0).1
  have W := hB.2.1.2.1
  by_cases hf : s 2 = 40 ∨ 32 < s 1
  · refine ⟨e0, _, c_C_function1_full (nI i0) m0 ht0 ht o0 hG n1 hC n2 hf, fun r w2 h2 => ?_⟩
    obtain ⟨rfl, rfl⟩ := h2
    exact ⟨e8, _, _, rfl, c_M_function1_full j0 o45 n2 n1 ht0 ht hf, fun r2 w3 h3 => ⟨h3.1, h3.2 ▸ hI⟩⟩
  · have hs32 : s 1 ≤ 32 := by omega
    have cc := c_C_function1 (G := grG (rowW w) s) (t := tn) (nI i0) m0 ht0 ht o0 hG W (hS.i 11 rfl (by decide)) hC (by omega) hs32 (by rw [k0]; exact z0)
    rw [k0] at cc
    refine ⟨e0, _, cc, fun r w2 h2 => ?_⟩
    have rel := tab1_rel (G := grG (rowW w) s) (H := grH (rowW w) s) (t := tn) hB.2.1.1 W (show s 1 + 4 ≤ 48 by omega) z0 (by omega)
    have grw : grown 2 3 16 (grG (rowW w) s) (tab1 2 3 (grG (rowW w) s) (rowW w 7 i0) tn) := (tab1_grown (by decide) W (by show s 1 < 48; omega) z0 (by omega)).weaken (by decide)
    have gnx : NX 3 (tab1 2 3 (grG (rowW w) s) (rowW w 7 i0) tn).2 := tab1_nx (by decide) hB.2.1.2.2
    have glg : LG (s 1) 2 3 (tab1 2 3 (grG (rowW w) s) (rowW w 7 i0) tn).2 := tab1_lg fun j a b => absurd (show j < s 1 from b) (by omega)
    have gvl := fun v => tab1_val (iv := 2) (nd := 3) (by decide) (G := grG (rowW w) s) (t := tn) (v := v) W (show s 1 + 4 ≤ 48 by omega) z0 ht0 ht
    obtain ⟨rfl, a0, ⟨a1, a2, a3, a4⟩, ⟨f11, a11⟩, ⟨a6, a7, a8, a9, a10⟩, ak⟩ := h2
    have w45 := (ak 45 (by omega)).trans o45
    have w46 := (ak 46 (by omega)).trans (hS.i 46 rfl (by decide))
    have w47 := (ak 47 (by omega)).trans (hS.i 47 rfl (by decide))
    have w48 := (ak 48 (by omega)).trans (hS.i 48 rfl (by decide))
    have w49 := (ak 49 (by omega)).trans (hS.i 49 rfl (by decide))
    have w50 := (ak 50 (by omega)).trans (hS.i 50 rfl (by decide))
    have w51 := (ak 51 (by omega)).trans (hS.i 51 rfl (by decide))
    have w52 := (ak 52 (by omega)).trans (hS.i 52 rfl (by decide))
    have w53 := (ak 53 (by omega)).trans (hS.i 53 rfl (by decide))
    have w54 := (ak 54 (by omega)).trans (hS.i 54 rfl (by decide))
    have w56 := (ak 56 (by omega)).trans (hS.i 56 rfl (by decide))
    have w57 := (ak 57 (by omega)).trans (hS.i 57 rfl (by decide))
    have w58 := (ak 58 (by omega)).trans (hS.i 58 rfl (by decide))
    have w59 := (ak 59 (by omega)).trans (hS.i 59 rfl (by decide))
    have mc := c_M_function1 (G := grH (rowW w) s) (t := tn) j0 w45 w46 w47 w48 w49 w50 w51 w52 w53 w54 w56 w57 w58 w59 (WFG_H hB.2.1.1 W) (by omega) hs32 (y0 ▸ z0) ht0 ht
    rw [← y0] at mc
    refine ⟨by rw [w45]; rfl, _, _, rfl, mc, fun r2 w3 h3 => ?_⟩
    obtain ⟨rfl, b45, c46, c47, c48, c49, c50, c51, c52, c53, c54, c56, c57, c58, ⟨no2, c59, hno⟩, bk⟩ := h3
    clear cc mc
    revert rel grw gnx glg gvl a1 a2 a3 a4 a7 b45 c47 c56 c57 c58
    generalize tab1 2 3 (grG (rowW w) s) (rowW w 7 i0) tn = o
    generalize tab1 3 2 (grH (rowW w) s) (rowW w 7 i0) tn = p
    intro rel grw gnx glg gvl a1 a2 a3 a4 a7 b45 c47 c56 c57 c58
    rw [← rel.2.1] at b45
    have c0 := (bk 0 (by omega)).trans a0
    have c1 := (bk 1 (by omega)).trans a1
    have c2 := (bk 2 (by omega)).trans a2
    have c3 := (bk 3 (by omega)).trans a3
    have c4 := (bk 4 (by omega)).trans a4
    have c6 := (bk 6 (by omega)).trans a6
    have c7 := (bk 7 (by omega)).trans a7
    have c8 := (bk 8 (by omega)).trans a8
    have c9 := (bk 9 (by omega)).trans a9
    have c10 := (bk 10 (by omega)).trans a10
    have c11 := (bk 11 (by omega)).trans a11
    have c13 := (bk 13 (by omega)).trans ((ak 13 (by omega)).trans o13)
    have eG : grG (rowW w3) (sN 0 o.2.1 (s 2 + 1) (s 3) (s 4) (s 5) (s 6) (s 7) (s 7)) = o.2 := by
      unfold grG
      rw [rw_i c2, rw_i c3, rw_i c4]
      rfl
    refine ⟨rfl, sN 0 o.2.1 (s 2 + 1) (s 3) (s 4) (s 5) (s 6) (s 7) (s 7), X, Nat.zero_le _, hS.upd [0, 1, 2, 3, 4, 6, 7, 8, 9, 10, 11, 45, 46, 47, 48, 49, 50, 51, 52, 53, 54, 56, 57, 58, 59] ?_ ?_, ⟨c0, c1, c6, c13, (bk 20 (by omega)).trans ((ak 20 (by omega)).trans o20), (bk 30 (by omega)).trans ((ak 30 (by omega)).trans o30), (bk 36 (by omega)).trans ((ak 36 (by omega)).trans o36), (bk 40 (by omega)).trans ((ak 40 (by omega)).trans o40), b45⟩, ?_, fun z => absurd z (by show ¬ (0 : Nat) = 1; decide)⟩
    · intro k hk
      simp only [List.mem_cons, List.not_mem_nil, or_false, not_or] at hk
      exact (bk k (by omega)).trans (ak k (by omega))
    · intro k hk
      simp only [List.mem_cons, List.not_mem_nil, or_false] at hk
      rcases hk with rfl | rfl | rfl | rfl | rfl | rfl | rfl | rfl | rfl | rfl | rfl | rfl | rfl | rfl | rfl | rfl | rfl | rfl | rfl | rfl | rfl | rfl | rfl | rfl | rfl
      · exact okR_o rfl rfl rfl
      · exact okR_o rfl rfl rfl
      · exact okR_i c2 rfl rfl rfl
      · exact okR_i c3 rfl rfl rfl
      · exact okR_i c4 rfl rfl rfl
      · exact okR_o rfl rfl rfl
      · exact okR_i c7 rfl rfl rfl
      · exact okR_i c8 rfl rfl rfl
      · exact okR_i c9 rfl rfl rfl
      · exact okR_i c10 rfl rfl rfl
      · exact okR_i c11 rfl rfl rfl
      · exact okR_o rfl rfl rfl
      · exact okR_i c46 rfl rfl rfl
      · exact okR_i c47 rfl rfl rfl
      · exact okR_i c48 rfl rfl rfl
      · exact okR_i c49 rfl rfl rfl
      · exact okR_i c50 rfl rfl rfl
      · exact okR_i c51 rfl rfl rfl
      · exact okR_i c52 rfl rfl rfl
      · exact okR_i c53 rfl rfl rfl
      · exact okR_i c54 rfl rfl rfl
      · exact okR_i c56 rfl rfl rfl
      · exact okR_i c57 rfl rfl rfl
      · exact okR_i c58 rfl rfl rfl
      · exact okR_i c59 rfl rfl rfl
    · refine Bd_fun (o := o) (p := p) hB (by omega) rel grw gnx glg grw.1.1 rfl rfl rfl rfl rfl rfl rfl rfl (rw_i c2) (rw_i c3) (rw_i c4) (rw_k ((bk 5 (by omega)).trans (ak 5 (by omega)))) (rw_i c7) (rw_i c8) (rw_i c9) (rw_i c10) (rw_i c46) (rw_i c47) (rw_i c48) (fun j hj => by rw [rw_i c49, rw_i c48]; exact if_pos hj) (rw_i c50) (fun i hi => by rw [rw_i c51, pk_un (by omega)]) (fun i hi => by rw [rw_i c52, pk_un (by omega)]) (fun i hi => by rw [rw_i c53, pk_un (by omega)]) (fun i hi => by rw [rw_i c54, pk_un (by omega)]) (rw_i c56) (rw_i c57) (rw_i c58) (fun j hj => by rw [rw_i c59]; exact hno j hj) (rw_k ((bk 60 (by omega)).trans (ak 60 (by omega)))) (fun k z => by unfold cellK at z; rcases z with rfl | rfl | rfl | rfl | rfl | rfl | rfl | rfl | rfl <;> exact rw_k ((bk _ (by omega)).trans (ak _ (by omega)))) ?_
      exact ⟨i0, tn, j0, by rw [rw_i c51, pk_us], by omega, by rw [rw_i c54, pk_us], .inl ⟨by rw [rw_i c52, pk_us], by rw [rw_i c53, pk_us], fun v hv => by
        unfold nv
        rw [rw_i c7, pk_us, pk_un (show ¬ i0 = s 2 by omega)]
        exact gvl v (eG ▸ hv)⟩⟩
set_option maxHeartbeats 8000000 in
theorem P_function2 {M : (Nat → Nat) → cx_W → Prop} {w : cx_W} (h : Inv M w) {s : Nat → Nat} {X : Nat → Int32} (hs0 : s 0 ≤ 1) (hS : Shp w) (hO : Obj w s X) (hB : Bd (rowW w) s) {i0 i1 tn : Nat} (j0 : i0 < s 2) (j1 : i1 < s 2) (ht0 : 0 < tn) (ht : tn < 15) : PairI 3 155 [ .int (nI i0), .int (nI i1), .int (-1), .int (nI tn)] w (Inv M) := by
  have hI := h
  obtain ⟨o0, o1, o6, o13, o20, o30, o36, o40, o45⟩ := hO
  obtain ⟨n1, n2, n3, n4, n5, n6, n7, n8, n9⟩ := hB.1
  have e0 : cx_ci (w 0) = some 0 := by rw [o0]; rfl
  have e8 : cx_ci (w 45) = some 8 := by rw [o45]; rfl
  have hG := Inv_G hS o1
  have hC := Inv_C hS o6
  have k0 : (nI i0).toNatClampNeg = i0 := nI_clamp (by omega)
  have m0 : isNet (s 2) (nI i0) := ⟨Int32.not_lt.mpr (nI_pos' (by omega)), Int32.not_le.mpr (nI_lt j0 (by omega))⟩
  have z0 : isN (s 1) (rowW w 7 i0) := (hB.2.2.1 i0 j0).2.1
  have y0 : rowW w 7 i0 = rowW w 47 i0 := (hB.2.2.1 i0 j0).1
  have k1 : (nI i1).toNatClampNeg = i1 := nI_clamp (by omega)
  have m1 : isNet (s 2) (nI i1) := ⟨Int32.not_lt.mpr (nI_pos' (by omega)), Int32.not_le.mpr (nI_lt j1 (by omega))⟩
  have z1 : isN (s 1) (rowW w 7 i1) := (hB.2.2.1 i1 j1).2.1
  have y1 : rowW w 7 i1 = rowW w 47 i1 := (hB.2.2.1 i1 j1).1
  have W := hB.2.1.2.1
  by_cases hf : s 2 = 40 ∨ 32 < s 1
  · refine ⟨e0, _, c_C_function2_full (nI i0) (nI i1) m0 m1 ht0 ht o0 hG n1 hC n2 hf, fun r w2 h2 => ?_⟩
    obtain ⟨rfl, rfl⟩ := h2
    exact ⟨e8, _, _, rfl, c_M_function2_full j0 j1 o45 n2 n1 ht0 ht hf, fun r2 w3 h3 => ⟨h3.1, h3.2 ▸ hI⟩⟩
  · have hs32 : s 1 ≤ 32 := by omega
    have cc := c_C_function2 (G := grG (rowW w) s) (t := tn) (nI i0) (nI i1) m0 m1 ht0 ht o0 hG W (hS.i 11 rfl (by decide)) hC (by omega) hs32 (by rw [k0]; exact z0) (by rw [k1]; exact z1)
    rw [k0, k1] at cc
    refine ⟨e0, _, cc, fun r w2 h2 => ?_⟩
    have rel := tab2_rel (G := grG (rowW w) s) (H := grH (rowW w) s) (t := tn) hB.2.1.1 W (show s 1 + 6 ≤ 48 by omega) z0 z1 (by omega)
    have grw : grown 2 3 16 (grG (rowW w) s) (tab2 2 3 (grG (rowW w) s) (rowW w 7 i0) (rowW w 7 i1) tn) := (tab2_grown (by decide) W (by show s 1 + 6 ≤ 48; omega) z0 z1 (by omega)).weaken (by decide)
    have gnx : NX 3 (tab2 2 3 (grG (rowW w) s) (rowW w 7 i0) (rowW w 7 i1) tn).2 := tab2_nx (by decide) hB.2.1.2.2
    have glg : LG (s 1) 2 3 (tab2 2 3 (grG (rowW w) s) (rowW w 7 i0) (rowW w 7 i1) tn).2 := tab2_lg fun j a b => absurd (show j < s 1 from b) (by omega)
    have gvl := fun v => tab2_val (iv := 2) (nd := 3) (by decide) (G := grG (rowW w) s) (t := tn) (v := v) W (show s 1 + 6 ≤ 48 by omega) z0 z1 ht0 ht
    obtain ⟨rfl, a0, ⟨a1, a2, a3, a4⟩, ⟨f11, a11⟩, ⟨a6, a7, a8, a9, a10⟩, ak⟩ := h2
    have w45 := (ak 45 (by omega)).trans o45
    have w46 := (ak 46 (by omega)).trans (hS.i 46 rfl (by decide))
    have w47 := (ak 47 (by omega)).trans (hS.i 47 rfl (by decide))
    have w48 := (ak 48 (by omega)).trans (hS.i 48 rfl (by decide))
    have w49 := (ak 49 (by omega)).trans (hS.i 49 rfl (by decide))
    have w50 := (ak 50 (by omega)).trans (hS.i 50 rfl (by decide))
    have w51 := (ak 51 (by omega)).trans (hS.i 51 rfl (by decide))
    have w52 := (ak 52 (by omega)).trans (hS.i 52 rfl (by decide))
    have w53 := (ak 53 (by omega)).trans (hS.i 53 rfl (by decide))
    have w54 := (ak 54 (by omega)).trans (hS.i 54 rfl (by decide))
    have w56 := (ak 56 (by omega)).trans (hS.i 56 rfl (by decide))
    have w57 := (ak 57 (by omega)).trans (hS.i 57 rfl (by decide))
    have w58 := (ak 58 (by omega)).trans (hS.i 58 rfl (by decide))
    have w59 := (ak 59 (by omega)).trans (hS.i 59 rfl (by decide))
    have mc := c_M_function2 (G := grH (rowW w) s) (t := tn) j0 j1 w45 w46 w47 w48 w49 w50 w51 w52 w53 w54 w56 w57 w58 w59 (WFG_H hB.2.1.1 W) (by omega) hs32 (y0 ▸ z0) (y1 ▸ z1) ht0 ht
    rw [← y0, ← y1] at mc
    refine ⟨by rw [w45]; rfl, _, _, rfl, mc, fun r2 w3 h3 => ?_⟩
    obtain ⟨rfl, b45, c46, c47, c48, c49, c50, c51, c52, c53, c54, c56, c57, c58, ⟨no2, c59, hno⟩, bk⟩ := h3
    clear cc mc
    revert rel grw gnx glg gvl a1 a2 a3 a4 a7 b45 c47 c56 c57 c58
    generalize tab2 2 3 (grG (rowW w) s) (rowW w 7 i0) (rowW w 7 i1) tn = o
    generalize tab2 3 2 (grH (rowW w) s) (rowW w 7 i0) (rowW w 7 i1) tn = p
    intro rel grw gnx glg gvl a1 a2 a3 a4 a7 b45 c47 c56 c57 c58
    rw [← rel.2.1] at b45
    have c0 := (bk 0 (by omega)).trans a0
    have c1 := (bk 1 (by omega)).trans a1
    have c2 := (bk 2 (by omega)).trans a2
    have c3 := (bk 3 (by omega)).trans a3
    have c4 := (bk 4 (by omega)).trans a4
    have c6 := (bk 6 (by omega)).trans a6
    have c7 := (bk 7 (by omega)).trans a7
    have c8 := (bk 8 (by omega)).trans a8
    have c9 := (bk 9 (by omega)).trans a9
    have c10 := (bk 10 (by omega)).trans a10
    have c11 := (bk 11 (by omega)).trans a11
    have c13 := (bk 13 (by omega)).trans ((ak 13 (by omega)).trans o13)
    have eG : grG (rowW w3) (sN 0 o.2.1 (s 2 + 1) (s 3) (s 4) (s 5) (s 6) (s 7) (s 7)) = o.2 := by
      unfold grG
      rw [rw_i c2, rw_i c3, rw_i c4]
      rfl
    refine ⟨rfl, sN 0 o.2.1 (s 2 + 1) (s 3) (s 4) (s 5) (s 6) (s 7) (s 7), X, Nat.zero_le _, hS.upd [0, 1, 2, 3, 4, 6, 7, 8, 9, 10, 11, 45, 46, 47, 48, 49, 50, 51, 52, 53, 54, 56, 57, 58, 59] ?_ ?_, ⟨c0, c1, c6, c13, (bk 20 (by omega)).trans ((ak 20 (by omega)).trans o20), (bk 30 (by omega)).trans ((ak 30 (by omega)).trans o30), (bk 36 (by omega)).trans ((ak 36 (by omega)).trans o36), (bk 40 (by omega)).trans ((ak 40 (by omega)).trans o40), b45⟩, ?_, fun z => absurd z (by show ¬ (0 : Nat) = 1; decide)⟩
    · intro k hk
      simp only [List.mem_cons, List.not_mem_nil, or_false, not_or] at hk
      exact (bk k (by omega)).trans (ak k (by omega))
    · intro k hk
      simp only [List.mem_cons, List.not_mem_nil, or_false] at hk
      rcases hk with rfl | rfl | rfl | rfl | rfl | rfl | rfl | rfl | rfl | rfl | rfl | rfl | rfl | rfl | rfl | rfl | rfl | rfl | rfl | rfl | rfl | rfl | rfl | rfl | rfl
      · exact okR_o rfl rfl rfl
      · exact okR_o rfl rfl rfl
      · exact okR_i c2 rfl rfl rfl
      · exact okR_i c3 rfl rfl rfl
      · exact okR_i c4 rfl rfl rfl
      · exact okR_o rfl rfl rfl
      · exact okR_i c7 rfl rfl rfl
      · exact okR_i c8 rfl rfl rfl
      · exact okR_i c9 rfl rfl rfl
      · exact okR_i c10 rfl rfl rfl
      · exact okR_i c11 rfl rfl rfl
      · exact okR_o rfl rfl rfl
      · exact okR_i c46 rfl rfl rfl
      · exact okR_i c47 rfl rfl rfl
      · exact okR_i c48 rfl rfl rfl
      · exact okR_i c49 rfl rfl rfl
      · exact okR_i c50 rfl rfl rfl
      · exact okR_i c51 rfl rfl rfl
      · exact okR_i c52 rfl rfl rfl
      · exact okR_i c53 rfl rfl rfl
      · exact okR_i c54 rfl rfl rfl
      · exact okR_i c56 rfl rfl rfl
      · exact okR_i c57 rfl rfl rfl
      · exact okR_i c58 rfl rfl rfl
      · exact okR_i c59 rfl rfl rfl
    · refine Bd_fun (o := o) (p := p) hB (by omega) rel grw gnx glg grw.1.1 rfl rfl rfl rfl rfl rfl rfl rfl (rw_i c2) (rw_i c3) (rw_i c4) (rw_k ((bk 5 (by omega)).trans (ak 5 (by omega)))) (rw_i c7) (rw_i c8) (rw_i c9) (rw_i c10) (rw_i c46) (rw_i c47) (rw_i c48) (fun j hj => by rw [rw_i c49, rw_i c48]; exact if_pos hj) (rw_i c50) (fun i hi => by rw [rw_i c51, pk_un (by omega)]) (fun i hi => by rw [rw_i c52, pk_un (by omega)]) (fun i hi => by rw [rw_i c53, pk_un (by omega)]) (fun i hi => by rw [rw_i c54, pk_un (by omega)]) (rw_i c56) (rw_i c57) (rw_i c58) (fun j hj => by rw [rw_i c59]; exact hno j hj) (rw_k ((bk 60 (by omega)).trans (ak 60 (by omega)))) (fun k z => by unfold cellK at z; rcases z with rfl | rfl | rfl | rfl | rfl | rfl | rfl | rfl | rfl <;> exact rw_k ((bk _ (by omega)).trans (ak _ (by omega)))) ?_
      exact ⟨i0, tn, j0, by rw [rw_i c51, pk_us], by omega, by rw [rw_i c54, pk_us], .inr ⟨i1, j1, by rw [rw_i c52, pk_us], .inl ⟨by rw [rw_i c53, pk_us], fun v hv => by
        unfold nv
        rw [rw_i c7, pk_us, pk_un (show ¬ i0 = s 2 by omega), pk_un (show ¬ i1 = s 2 by omega)]
        exact gvl v (eG ▸ hv)⟩⟩⟩
set_option maxHeartbeats 8000000 in
theorem P_function3 {M : (Nat → Nat) → cx_W → Prop} {w : cx_W} (h : Inv M w) {s : Nat → Nat} {X : Nat → Int32} (hs0 : s 0 ≤ 1) (hS : Shp w) (hO : Obj w s X) (hB : Bd (rowW w) s) {i0 i1 i2 tn : Nat} (j0 : i0 < s 2) (j1 : i1 < s 2) (j2 : i2 < s 2) (ht0 : 0 < tn) (ht : tn < 255) : PairI 3 155 [ .int (nI i0), .int (nI i1), .int (nI i2), .int (nI tn)] w (Inv M) := by
  have hI := h
  obtain ⟨o0, o1, o6, o13, o20, o30, o36, o40, o45⟩ := hO
  obtain ⟨n1, n2, n3, n4, n5, n6, n7, n8, n9⟩ := hB.1
  have e0 : cx_ci (w 0) = some 0 := by rw [o0]; rfl
  have e8 : cx_ci (w 45) = some 8 := by rw [o45]; rfl
  have hG := Inv_G hS o1
  have hC := Inv_C hS o6
  have k0 : (nI i0).toNatClampNeg = i0 := nI_clamp (by omega)
  have m0 : isNet (s 2) (nI i0) := ⟨Int32.not_lt.mpr (nI_pos' (by omega)), Int32.not_le.mpr (nI_lt j0 (by omega))⟩
  have z0 : isN (s 1) (rowW w 7 i0) := (hB.2.2.1 i0 j0).2.1
  have y0 : rowW w 7 i0 = rowW w 47 i0 := (hB.2.2.1 i0 j0).1
  have k1 : (nI i1).toNatClampNeg = i1 := nI_clamp (by omega)
  have m1 : isNet (s 2) (nI i1) := ⟨Int32.not_lt.mpr (nI_pos' (by omega)), Int32.not_le.mpr (nI_lt j1 (by omega))⟩
  have z1 : isN (s 1) (rowW w 7 i1) := (hB.2.2.1 i1 j1).2.1
  have y1 : rowW w 7 i1 = rowW w 47 i1 := (hB.2.2.1 i1 j1).1
  have k2 : (nI i2).toNatClampNeg = i2 := nI_clamp (by omega)
  have m2 : isNet (s 2) (nI i2) := ⟨Int32.not_lt.mpr (nI_pos' (by omega)), Int32.not_le.mpr (nI_lt j2 (by omega))⟩
  have z2 : isN (s 1) (rowW w 7 i2) := (hB.2.2.1 i2 j2).2.1
  have y2 : rowW w 7 i2 = rowW w 47 i2 := (hB.2.2.1 i2 j2).1
  have W := hB.2.1.2.1
  by_cases hf : s 2 = 40 ∨ 32 < s 1
  · refine ⟨e0, _, c_C_function3_full (nI i0) (nI i1) (nI i2) m0 m1 m2 ht0 ht o0 hG n1 hC n2 hf, fun r w2 h2 => ?_⟩
    obtain ⟨rfl, rfl⟩ := h2
    exact ⟨e8, _, _, rfl, c_M_function3_full j0 j1 j2 o45 n2 n1 ht0 ht hf, fun r2 w3 h3 => ⟨h3.1, h3.2 ▸ hI⟩⟩
  · have hs32 : s 1 ≤ 32 := by omega
    have cc := c_C_function3 (G := grG (rowW w) s) (t := tn) (nI i0) (nI i1) (nI i2) m0 m1 m2 ht0 ht o0 hG W (hS.i 11 rfl (by decide)) hC (by omega) hs32 (by rw [k0]; exact z0) (by rw [k1]; exact z1) (by rw [k2]; exact z2)
    rw [k0, k1, k2] at cc
    refine ⟨e0, _, cc, fun r w2 h2 => ?_⟩
    have rel := tab3_rel (G := grG (rowW w) s) (H := grH (rowW w) s) (t := tn) hB.2.1.1 W (show s 1 + 16 ≤ 48 by omega) z0 z1 z2 (by omega)
    have grw : grown 2 3 16 (grG (rowW w) s) (tab3 2 3 (grG (rowW w) s) (rowW w 7 i0) (rowW w 7 i1) (rowW w 7 i2) tn) := (tab3_grown (by decide) W (by show s 1 + 16 ≤ 48; omega) z0 z1 z2 (by omega)).weaken (by decide)
    have gnx : NX 3 (tab3 2 3 (grG (rowW w) s) (rowW w 7 i0) (rowW w 7 i1) (rowW w 7 i2) tn).2 := tab3_nx (by decide) hB.2.1.2.2
    have glg : LG (s 1) 2 3 (tab3 2 3 (grG (rowW w) s) (rowW w 7 i0) (rowW w 7 i1) (rowW w 7 i2) tn).2 := tab3_lg fun j a b => absurd (show j < s 1 from b) (by omega)
    have gvl := fun v => tab3_val (iv := 2) (nd := 3) (by decide) (G := grG (rowW w) s) (t := tn) (v := v) W (show s 1 + 16 ≤ 48 by omega) z0 z1 z2 ht0 ht
    obtain ⟨rfl, a0, ⟨a1, a2, a3, a4⟩, ⟨f11, a11⟩, ⟨a6, a7, a8, a9, a10⟩, ak⟩ := h2
    have w45 := (ak 45 (by omega)).trans o45
    have w46 := (ak 46 (by omega)).trans (hS.i 46 rfl (by decide))
    have w47 := (ak 47 (by omega)).trans (hS.i 47 rfl (by decide))
    have w48 := (ak 48 (by omega)).trans (hS.i 48 rfl (by decide))
    have w49 := (ak 49 (by omega)).trans (hS.i 49 rfl (by decide))
    have w50 := (ak 50 (by omega)).trans (hS.i 50 rfl (by decide))
    have w51 := (ak 51 (by omega)).trans (hS.i 51 rfl (by decide))
    have w52 := (ak 52 (by omega)).trans (hS.i 52 rfl (by decide))
    have w53 := (ak 53 (by omega)).trans (hS.i 53 rfl (by decide))
    have w54 := (ak 54 (by omega)).trans (hS.i 54 rfl (by decide))
    have w56 := (ak 56 (by omega)).trans (hS.i 56 rfl (by decide))
    have w57 := (ak 57 (by omega)).trans (hS.i 57 rfl (by decide))
    have w58 := (ak 58 (by omega)).trans (hS.i 58 rfl (by decide))
    have w59 := (ak 59 (by omega)).trans (hS.i 59 rfl (by decide))
    have mc := c_M_function3 (G := grH (rowW w) s) (t := tn) j0 j1 j2 w45 w46 w47 w48 w49 w50 w51 w52 w53 w54 w56 w57 w58 w59 (WFG_H hB.2.1.1 W) (by omega) hs32 (y0 ▸ z0) (y1 ▸ z1) (y2 ▸ z2) ht0 ht
    rw [← y0, ← y1, ← y2] at mc
    refine ⟨by rw [w45]; rfl, _, _, rfl, mc, fun r2 w3 h3 => ?_⟩
    obtain ⟨rfl, b45, c46, c47, c48, c49, c50, c51, c52, c53, c54, c56, c57, c58, ⟨no2, c59, hno⟩, bk⟩ := h3
    clear cc mc
    revert rel grw gnx glg gvl a1 a2 a3 a4 a7 b45 c47 c56 c57 c58
    generalize tab3 2 3 (grG (rowW w) s) (rowW w 7 i0) (rowW w 7 i1) (rowW w 7 i2) tn = o
    generalize tab3 3 2 (grH (rowW w) s) (rowW w 7 i0) (rowW w 7 i1) (rowW w 7 i2) tn = p
    intro rel grw gnx glg gvl a1 a2 a3 a4 a7 b45 c47 c56 c57 c58
    rw [← rel.2.1] at b45
    have c0 := (bk 0 (by omega)).trans a0
    have c1 := (bk 1 (by omega)).trans a1
    have c2 := (bk 2 (by omega)).trans a2
    have c3 := (bk 3 (by omega)).trans a3
    have c4 := (bk 4 (by omega)).trans a4
    have c6 := (bk 6 (by omega)).trans a6
    have c7 := (bk 7 (by omega)).trans a7
    have c8 := (bk 8 (by omega)).trans a8
    have c9 := (bk 9 (by omega)).trans a9
    have c10 := (bk 10 (by omega)).trans a10
    have c11 := (bk 11 (by omega)).trans a11
    have c13 := (bk 13 (by omega)).trans ((ak 13 (by omega)).trans o13)
    have eG : grG (rowW w3) (sN 0 o.2.1 (s 2 + 1) (s 3) (s 4) (s 5) (s 6) (s 7) (s 7)) = o.2 := by
      unfold grG
      rw [rw_i c2, rw_i c3, rw_i c4]
      rfl
    refine ⟨rfl, sN 0 o.2.1 (s 2 + 1) (s 3) (s 4) (s 5) (s 6) (s 7) (s 7), X, Nat.zero_le _, hS.upd [0, 1, 2, 3, 4, 6, 7, 8, 9, 10, 11, 45, 46, 47, 48, 49, 50, 51, 52, 53, 54, 56, 57, 58, 59] ?_ ?_, ⟨c0, c1, c6, c13, (bk 20 (by omega)).trans ((ak 20 (by omega)).trans o20), (bk 30 (by omega)).trans ((ak 30 (by omega)).trans o30), (bk 36 (by omega)).trans ((ak 36 (by omega)).trans o36), (bk 40 (by omega)).trans ((ak 40 (by omega)).trans o40), b45⟩, ?_, fun z => absurd z (by show ¬ (0 : Nat) = 1; decide)⟩
    · intro k hk
      simp only [List.mem_cons, List.not_mem_nil, or_false, not_or] at hk
      exact (bk k (by omega)).trans (ak k (by omega))
    · intro k hk
      simp only [List.mem_cons, List.not_mem_nil, or_false] at hk
      rcases hk with rfl | rfl | rfl | rfl | rfl | rfl | rfl | rfl | rfl | rfl | rfl | rfl | rfl | rfl | rfl | rfl | rfl | rfl | rfl | rfl | rfl | rfl | rfl | rfl | rfl
      · exact okR_o rfl rfl rfl
      · exact okR_o rfl rfl rfl
      · exact okR_i c2 rfl rfl rfl
      · exact okR_i c3 rfl rfl rfl
      · exact okR_i c4 rfl rfl rfl
      · exact okR_o rfl rfl rfl
      · exact okR_i c7 rfl rfl rfl
      · exact okR_i c8 rfl rfl rfl
      · exact okR_i c9 rfl rfl rfl
      · exact okR_i c10 rfl rfl rfl
      · exact okR_i c11 rfl rfl rfl
      · exact okR_o rfl rfl rfl
      · exact okR_i c46 rfl rfl rfl
      · exact okR_i c47 rfl rfl rfl
      · exact okR_i c48 rfl rfl rfl
      · exact okR_i c49 rfl rfl rfl
      · exact okR_i c50 rfl rfl rfl
      · exact okR_i c51 rfl rfl rfl
      · exact okR_i c52 rfl rfl rfl
      · exact okR_i c53 rfl rfl rfl
      · exact okR_i c54 rfl rfl rfl
      · exact okR_i c56 rfl rfl rfl
      · exact okR_i c57 rfl rfl rfl
      · exact okR_i c58 rfl rfl rfl
      · exact okR_i c59 rfl rfl rfl
    · refine Bd_fun (o := o) (p := p) hB (by omega) rel grw gnx glg grw.1.1 rfl rfl rfl rfl rfl rfl rfl rfl (rw_i c2) (rw_i c3) (rw_i c4) (rw_k ((bk 5 (by omega)).trans (ak 5 (by omega)))) (rw_i c7) (rw_i c8) (rw_i c9) (rw_i c10) (rw_i c46) (rw_i c47) (rw_i c48) (fun j hj => by rw [rw_i c49, rw_i c48]; exact if_pos hj) (rw_i c50) (fun i hi => by rw [rw_i c51, pk_un (by omega)]) (fun i hi => by rw [rw_i c52, pk_un (by omega)]) (fun i hi => by rw [rw_i c53, pk_un (by omega)]) (fun i hi => by rw [rw_i c54, pk_un (by omega)]) (rw_i c56) (rw_i c57) (rw_i c58) (fun j hj => by rw [rw_i c59]; exact hno j hj) (rw_k ((bk 60 (by omega)).trans (ak 60 (by omega)))) (fun k z => by unfold cellK at z; rcases z with rfl | rfl | rfl | rfl | rfl | rfl | rfl | rfl | rfl <;> exact rw_k ((bk _ (by omega)).trans (ak _ (by omega)))) ?_
      exact ⟨i0, tn, j0, by rw [rw_i c51, pk_us], by omega, by rw [rw_i c54, pk_us], .inr ⟨i1, j1, by rw [rw_i c52, pk_us], .inr ⟨i2, j2, by rw [rw_i c53, pk_us], fun v hv => by
        unfold nv
        rw [rw_i c7, pk_us, pk_un (show ¬ i0 = s 2 by omega), pk_un (show ¬ i1 = s 2 by omega), pk_un (show ¬ i2 = s 2 by omega)]
        exact gvl v (eG ▸ hv)⟩⟩⟩
theorem P_function {M : (Nat → Nat) → cx_W → Prop} {w : cx_W} (h : Inv M w) (a b c t : Int32) : PairI 3 155 [.int a, .int b, .int c, .int t] w (Inv M) := by
  have hI := h
  obtain ⟨s, X, hs0, hS, hO, hB, hM⟩ := h
  have hO' := hO
  obtain ⟨o0, o1, o6, o13, o20, o30, o36, o40, o45⟩ := hO
  obtain ⟨n1, n2, n3, n4, n5, n6, n7, n8, n9⟩ := hB.1
  have e0 : cx_ci (w 0) = some 0 := by rw [o0]; rfl
  have e8 : cx_ci (w 45) = some 8 := by rw [o45]; rfl
  have hC := Inv_C hS o6
  by_cases ho : fOK (s 2) a b c t
  · rcases ho with ⟨h1, rfl, rfl, t1, t2⟩ | ⟨h1, h2, rfl, t1, t2⟩ | ⟨h1, h2, h3, t1, t2⟩
    · obtain ⟨i0, e1, q1⟩ : ∃ i : Nat, a = nI i ∧ i < s 2 := ⟨_, (h1.lt n2).2, (h1.lt n2).1⟩
      obtain ⟨tn, u1, u2, rfl⟩ := tab_num (N := 3) rfl (by decide) t1 t2
      rw [e1]
      exact P_function1 hI hs0 hS hO' hB q1 u1 u2
    · obtain ⟨i0, e1, q1⟩ : ∃ i : Nat, a = nI i ∧ i < s 2 := ⟨_, (h1.lt n2).2, (h1.lt n2).1⟩
      obtain ⟨i1, e2, q2⟩ : ∃ i : Nat, b = nI i ∧ i < s 2 := ⟨_, (h2.lt n2).2, (h2.lt n2).1⟩
      obtain ⟨tn, u1, u2, rfl⟩ := tab_num (N := 15) rfl (by decide) t1 t2
      rw [e1, e2]
      exact P_function2 hI hs0 hS hO' hB q1 q2 u1 u2
    · obtain ⟨i0, e1, q1⟩ : ∃ i : Nat, a = nI i ∧ i < s 2 := ⟨_, (h1.lt n2).2, (h1.lt n2).1⟩
      obtain ⟨i1, e2, q2⟩ : ∃ i : Nat, b = nI i ∧ i < s 2 := ⟨_, (h2.lt n2).2, (h2.lt n2).1⟩
      obtain ⟨i2, e3, q3⟩ : ∃ i : Nat, c = nI i ∧ i < s 2 := ⟨_, (h3.lt n2).2, (h3.lt n2).1⟩
      obtain ⟨tn, u1, u2, rfl⟩ := tab_num (N := 255) rfl (by decide) t1 t2
      rw [e1, e2, e3]
      exact P_function3 hI hs0 hS hO' hB q1 q2 q3 u1 u2
  · refine ⟨e0, _, c_C_function_bad (G := grG (rowW w) s) a b c t ho o0 hC, fun r w2 h2 => ?_⟩
    obtain ⟨rfl, rfl⟩ := h2
    exact ⟨e8, _, _, rfl, c_M_function_bad a b c t ho o45, fun r2 w3 h3 => ⟨h3.1, h3.2 ▸ hI⟩⟩
