/-! Both sides clock the moved circuit alike, and reset alike. Own work. -/
theorem km0 {x : Int32} (h : km x = 0) : x = 0 := by
  unfold km at h
  split at h
  · exact absurd h (by decide)
  · split at h
    · exact absurd h (by decide)
    · exact h
set_option maxHeartbeats 8000000 in
theorem P_clockRetimed {w : cx_W} (h : Inv MapI w) (inp : Int32) : PairI 18 200 [.int inp] w (Inv MapI) := by
  have hI := h
  obtain ⟨s, X, hs0, hS, ⟨o0, o1, o6, o13, o20, o30, o36, o40, o45⟩, hB, hM⟩ := h
  obtain ⟨n1, n2, n3, n4, n5, n6, n7, n8, n9⟩ := hB.1
  have e0 : cx_ci (w 0) = some 0 := by rw [o0]; rfl
  have e8 : cx_ci (w 45) = some 8 := by rw [o45]; rfl
  rcases Inv_01 hs0 with z | z
  · rw [z] at o0 o45
    refine ⟨e0, _, u_C_clockRetimed o0 inp, fun r w2 h2 => ?_⟩
    obtain ⟨rfl, rfl⟩ := h2
    exact ⟨e8, _, _, rfl, u_M_clockRetimed o45 inp, fun r2 w3 h3 => ⟨h3.1, h3.2 ▸ hI⟩⟩
  · have o0' := o0
    obtain ⟨gt, q, pl, d, F, fo, S, L, B, tf, tbl, mv, cn, ro, pv, cel, key, Pb, P, hP, hcv, hkey, har, hc, hm⟩ := hM z
    obtain ⟨gs, ch, pn, tb, sr, fg, gm, ct, mr, or_, rw, pw, od, hA, h36, h37, hmr, h34, hro, h41, hpv, h42, hor, hcel⟩ := hc
    obtain ⟨pa, dl, ch2, gr, so, la_, mr2, kp, sr2, lr, pr, x0, x1, x2, x5, x7, hW, h45, h81, hmr2, h76, hkp, h77, hlr, h78, hpr, hcel2⟩ := hm
    have hG := Inv_G hS o1
    have hC := Inv_C hS o6
    rw [z] at o0
    obtain ⟨v0, _, hv0, _⟩ := hB.vals inp
    obtain ⟨v, hvi, hval⟩ := vG_ex (F := F) (pl := pl) (S := S) (tbl := tbl) (cn := cn) (pv := pv) (key := key) v0 hkey
    have notg : ∀ m, rowW w 2 m = 0 → ¬ gt m := fun m h0 g => (hP.2.1 m g).2.2.2 h0
    have k56 : ∀ m, m < s 1 → (rowW w 56 m = 0 ↔ rowW w 2 m = 0) := fun m hm => by
      obtain ⟨_, k2, _⟩ := hB.2.1.1.2 m hm
      have k2 : rowW w 56 m = km (rowW w 2 m) := k2
      rw [k2]
      exact ⟨km0, fun y => by rw [y]; rfl⟩
    refine ⟨e0, _, c_C_clockRetimed o0 hA.2.2.2.2.2.2 (fun r w2 h => ⟨_, h.1⟩) (c_Ma_runCycle (G := grG (rowW w) s) (v := v) hA hG (hS.i 5 rfl (by decide)) hC n5 h41 hpv h42 hor (hS.i 44 rfl (by decide)) (fun e he => ?_) (fun g hg => (hP.2.1 g hg).2.2.2) hval (fun m hm h0 => ?_)), fun r w2 h2 => ?_⟩
    · obtain ⟨y1, y2, y3, y4⟩ := hP.2.2.2.2.1 e he
      exact y4.imp id fun y => ⟨y1, y⟩
    · obtain ⟨i, i1, i2, i3, i4⟩ := hv0 m hm h0
      exact ⟨_, i3, by rw [hvi m (notg m h0)]; exact i4⟩
    obtain ⟨rfl, ⟨pw2, a41, hpw2⟩, ⟨vs2, a44⟩, ak⟩ := h2
    have hW2 := hW.of (w1 := w2) fun k y => ak k (by omega)
    have t : ∀ k, ¬ k = 41 ∧ ¬ k = 44 → ∀ {e : cx_E}, w k = e → w2 k = e := fun k y e q => (ak k y).trans q
    have w45 := t 45 (by omega) h45
    refine ⟨by rw [w45]; rfl, _, _, rfl, c_M_clockRetimed (kc := fun g p => cn (F g + p)) (kr := fun g p => pv (F g + p)) (ok := fun o => cn (fo + o)) (okr := fun o => pv (fo + o)) (cv := fun g b => (tbl g).testBit b) (v := v) (key := key) hW2 w45 (t 46 (by omega) (hS.i 46 rfl (by decide))) (t 56 (by omega) (hS.i 56 rfl (by decide))) (t 59 (by omega) (hS.i 59 rfl (by decide))) (t 76 (by omega) h76) (t 78 (by omega) h78) (t 84 (by omega) (hS.z 84 rfl (by decide))) (t 85 (by omega) (hS.i 85 rfl (by decide))) (t 86 (by omega) (hS.i 86 rfl (by decide))) hkp hpr hcv hval hkey (fun g p hg hp => ?_) (fun o ho => ?_) (fun m hm h0 => ?_), fun r2 w3 h3 => ?_⟩
    · obtain ⟨y1, y2, y3, y4⟩ := hP.2.2.2.2.1 (F g + p) (by have := hP.lt hg hp; omega)
      exact y4.imp id fun y => (k56 _ y1).mpr y
    · obtain ⟨y1, y2, y3, y4⟩ := hP.2.2.2.2.1 (fo + o) (by omega)
      exact y4.imp id fun y => (k56 _ y1).mpr y
    · have h0 := (k56 m hm).mp h0
      obtain ⟨i, i1, i2, i3, i4⟩ := hv0 m hm h0
      exact ⟨i, by omega, i2, by rw [hvi m (notg m h0)]; exact i4⟩
    obtain ⟨rfl, ⟨pr2, c78, hpr2⟩, ⟨kn, sg, op, c84, c85, c86⟩, bk⟩ := h3
    have fr : ∀ k, ¬ k = 41 ∧ ¬ k = 44 ∧ ¬ k = 78 ∧ ¬ k = 84 ∧ ¬ k = 85 ∧ ¬ k = 86 → w3 k = w k := fun k y => (bk k (by unfold frK; omega)).trans (ak k (by omega))
    refine ⟨rfl, s, X, hs0, hS.upd [41, 44, 78, 84, 85, 86] ?_ ?_, ⟨(fr 0 (by omega)).trans o0', (fr 1 (by omega)).trans o1, (fr 6 (by omega)).trans o6, (fr 13 (by omega)).trans o13, (fr 20 (by omega)).trans o20, (fr 30 (by omega)).trans o30, (fr 36 (by omega)).trans o36, (fr 40 (by omega)).trans o40, (fr 45 (by omega)).trans o45⟩, Bd_same hB (fun _ _ _ => rfl) (fun k y => rw_k (fr k (by omega))), fun _ => ?_⟩
    · intro k hk
      simp only [List.mem_cons, List.not_mem_nil, or_false, not_or] at hk
      exact fr k (by omega)
    · intro k hk
      simp only [List.mem_cons, List.not_mem_nil, or_false] at hk
      rcases hk with rfl | rfl | rfl | rfl | rfl | rfl
      · exact okR_l ((bk 41 (by decide)).trans a41) rfl rfl rfl
      · exact okR_i ((bk 44 (by decide)).trans a44) rfl rfl rfl
      · exact okR_l c78 rfl rfl rfl
      · exact okR_z c84 rfl rfl rfl
      · exact okR_i c85 rfl rfl rfl
      · exact okR_i c86 rfl rfl rfl
    · refine ⟨gt, q, pl, d, F, fo, S, L, B, tf, tbl, mv, cn, ro, nxR v S cn pv, cel, key, Pb, P, ?_, hcv, hkey, ?_, ?_, ?_⟩
      · rw [rw_k (fr 2 (by omega))]; exact hP
      · rw [rw_k (fr 15 (by omega)), rw_k (fr 62 (by omega))]; exact har
      · obtain ⟨⟨⟨y1, ⟨y2x, y2⟩, y3, y4, y5, y6, y7, y8, y9, y10⟩, yr⟩, z1, z2, z3, z4, z5, z6⟩ := hA
        have u : ∀ k, ¬ k = 41 ∧ ¬ k = 44 ∧ ¬ k = 78 ∧ ¬ k = 84 ∧ ¬ k = 85 ∧ ¬ k = 86 → ∀ {e : cx_E}, w k = e → w3 k = e := fun k y e q => (fr k y).trans q
        exact ⟨gs, ch, pn, tb, sr, fg, gm, ct, mr, or_, rw, pw2, od, ⟨⟨⟨y1, ⟨y2x, u 13 (by omega) y2⟩, u 17 (by omega) y3, u 19 (by omega) y4, u 20 (by omega) y5, u 24 (by omega) y6, u 29 (by omega) y7, u 30 (by omega) y8, u 31 (by omega) y9, u 35 (by omega) y10⟩, yr⟩, u 1 (by omega) z1, u 28 (by omega) z2, z3, u 33 (by omega) z4, z5, u 40 (by omega) z6⟩, u 36 (by omega) h36, u 37 (by omega) h37, hmr, u 34 (by omega) h34, hro, (bk 41 (by decide)).trans a41, hpw2, u 42 (by omega) h42, hor, hcel⟩
      · exact ⟨pa, dl, ch2, gr, so, la_, mr2, kp, sr2, lr, pr2, x0, x1, x2, x5, x7, hW.of fun k y => fr k (by omega), (fr 45 (by omega)).trans h45, (fr 81 (by omega)).trans h81, hmr2, (fr 76 (by omega)).trans h76, hkp, (fr 77 (by omega)).trans h77, hlr, c78, hpr2, hcel2⟩
set_option maxHeartbeats 8000000 in
theorem P_reset {w : cx_W} (h : Inv MapI w) : PairV 19 201 [] w (Inv MapI) := by
  have hI := h
  obtain ⟨s, X, hs0, hS, ⟨o0, o1, o6, o13, o20, o30, o36, o40, o45⟩, hB, hM⟩ := h
  obtain ⟨n1, n2, n3, n4, n5, n6, n7, n8, n9⟩ := hB.1
  have e0 : cx_ci (w 0) = some 0 := by rw [o0]; rfl
  -- the rows behind both resets
  have bd : ∀ (w3 : cx_W) (nw2 : Nat → Int32), w3 49 = ai 40 nw2 → (∀ j, j < s 2 → nw2 j = rowW w 48 j) → (∀ k, k < 20 ∨ (45 < k ∧ k < 64) → ¬ k = 6 → ¬ k = 49 → w3 k = w k) → Bd (rowW w3) (sN (s 0) (s 1) (s 2) (s 3) (s 4) (s 5) (s 6) (s 7) (s 7)) := fun w3 nw2 c49 hnw fr => by
    refine Bd_now hB rfl rfl rfl rfl rfl rfl rfl n7 (fun k z => rw_k (fr k (by omega) (by omega) (by omega))) (fun k z => rw_k (fr k (by unfold cellK at z; omega) (by unfold cellK at z; omega) (by unfold cellK at z; omega))) (fun l hl => ?_) (fun i hi => ⟨fun z => ?_, fun z l hl e => ⟨?_, ?_⟩⟩)
    · rw [rw_k (fr 9 (by omega) (by omega) (by omega))]; exact (hB.2.2.2.2.1 l hl).2
    · rw [rw_i c49, hnw i hi]; exact ((hB.2.2.1 i hi).no z).2.1
    · rw [rw_i c49, hnw i hi]
      obtain ⟨_, ⟨l', l1, l2, l3, l4, _⟩, _⟩ := (hB.2.2.1 i hi).la z
      have el : l = l' := (nI_eq (by omega) (by omega)).mp (e.symm.trans l2)
      rw [el]; exact l4
    · rw [rw_k (fr 9 (by omega) (by omega) (by omega)), rw_k (fr 50 (by omega) (by omega) (by omega))]
      obtain ⟨_, ⟨l', l1, l2, l3, l4, _⟩, _⟩ := (hB.2.2.1 i hi).la z
      have el : l = l' := (nI_eq (by omega) (by omega)).mp (e.symm.trans l2)
      rw [el]; exact l3
  rcases Inv_01 hs0 with z | z
  · have o0' := o0
    rw [z] at o0'
    refine ⟨e0, _, c_C_reset0 o0' o6, fun r w2 h2 => ?_⟩
    obtain ⟨rfl, a6, ak⟩ := h2
    have w45 := (ak 45 (by omega)).trans o45
    refine ⟨by rw [w45]; rfl, _, rfl, c_M_reset n2 w45 ((ak 48 (by omega)).trans (hS.i 48 rfl (by decide))) ((ak 49 (by omega)).trans (hS.i 49 rfl (by decide))) ((ak 77 (by omega)).trans (hS.l 77 rfl (by decide))) ((ak 78 (by omega)).trans (hS.l 78 rfl (by decide))), fun r2 w3 h3 => ?_⟩
    obtain ⟨rfl, ⟨nw2, c49, hnw⟩, ⟨pr2, c78, hpr2⟩, bk⟩ := h3
    have fr : ∀ k, ¬ k = 6 ∧ ¬ k = 49 ∧ ¬ k = 78 → w3 k = w k := fun k y => (bk k (by omega)).trans (ak k (by omega))
    refine ⟨rfl, sN (s 0) (s 1) (s 2) (s 3) (s 4) (s 5) (s 6) (s 7) (s 7), X, hs0, hS.upd [6, 49, 78] ?_ ?_, ⟨(fr 0 (by omega)).trans o0, (fr 1 (by omega)).trans o1, (bk 6 (by omega)).trans a6, (fr 13 (by omega)).trans o13, (fr 20 (by omega)).trans o20, (fr 30 (by omega)).trans o30, (fr 36 (by omega)).trans o36, (fr 40 (by omega)).trans o40, (fr 45 (by omega)).trans o45⟩, bd w3 nw2 c49 hnw (fun k h1 h2 h3 => fr k (by omega)), fun y => ?_⟩
    · intro k hk
      simp only [List.mem_cons, List.not_mem_nil, or_false, not_or] at hk
      exact fr k (by omega)
    · intro k hk
      simp only [List.mem_cons, List.not_mem_nil, or_false] at hk
      rcases hk with rfl | rfl | rfl
      · exact okR_o rfl rfl rfl
      · exact okR_i c49 rfl rfl rfl
      · exact okR_l c78 rfl rfl rfl
    · have y : s 0 = 1 := y
      omega
  · obtain ⟨gt, q, pl, d, F, fo, S, L, B, tf, tbl, mv, cn, ro, pv, cel, key, Pb, P, hP, hcv, hkey, har, hc, hm⟩ := hM z
    obtain ⟨gs, ch, pn, tb, sr, fg, gm, ct, mr, or_, rw, pw, od, hA, h36, h37, hmr, h34, hro, h41, hpv, h42, hor, hcel⟩ := hc
    obtain ⟨pa, dl, ch2, gr, so, la_, mr2, kp, sr2, lr, pr, x0, x1, x2, x5, x7, hW, h45, h81, hmr2, h76, hkp, h77, hlr, h78, hpr, hcel2⟩ := hm
    have o0' := o0
    rw [z] at o0'
    refine ⟨e0, _, c_C_reset1 o0' o6 hA h34 h41, fun r w2 h2 => ?_⟩
    obtain ⟨rfl, a6, ⟨pw2, a41, hpw2⟩, ak⟩ := h2
    have w45 := (ak 45 (by omega)).trans o45
    refine ⟨by rw [w45]; rfl, _, rfl, c_M_reset n2 w45 ((ak 48 (by omega)).trans (hS.i 48 rfl (by decide))) ((ak 49 (by omega)).trans (hS.i 49 rfl (by decide))) ((ak 77 (by omega)).trans h77) ((ak 78 (by omega)).trans h78), fun r2 w3 h3 => ?_⟩
    obtain ⟨rfl, ⟨nw2, c49, hnw⟩, ⟨pr2, c78, hpr2⟩, bk⟩ := h3
    have fr : ∀ k, ¬ k = 6 ∧ ¬ k = 41 ∧ ¬ k = 49 ∧ ¬ k = 78 → w3 k = w k := fun k y => (bk k (by omega)).trans (ak k (by omega))
    refine ⟨rfl, sN (s 0) (s 1) (s 2) (s 3) (s 4) (s 5) (s 6) (s 7) (s 7), X, hs0, hS.upd [6, 41, 49, 78] ?_ ?_, ⟨(fr 0 (by omega)).trans o0, (fr 1 (by omega)).trans o1, (bk 6 (by omega)).trans a6, (fr 13 (by omega)).trans o13, (fr 20 (by omega)).trans o20, (fr 30 (by omega)).trans o30, (fr 36 (by omega)).trans o36, (fr 40 (by omega)).trans o40, (fr 45 (by omega)).trans o45⟩, bd w3 nw2 c49 hnw (fun k h1 h2 h3 => fr k (by omega)), fun _ => ?_⟩
    · intro k hk
      simp only [List.mem_cons, List.not_mem_nil, or_false, not_or] at hk
      exact fr k (by omega)
    · intro k hk
      simp only [List.mem_cons, List.not_mem_nil, or_false] at hk
      rcases hk with rfl | rfl | rfl | rfl
      · exact okR_o rfl rfl rfl
      · exact okR_l ((bk 41 (by omega)).trans a41) rfl rfl rfl
      · exact okR_i c49 rfl rfl rfl
      · exact okR_l c78 rfl rfl rfl
    · refine ⟨gt, q, pl, d, F, fo, S, L, B, tf, tbl, mv, cn, ro, ro, cel, key, Pb, P, ?_, hcv, hkey, ?_, ?_, ?_⟩
      · rw [rw_k (fr 2 (by omega))]; exact hP
      · rw [rw_k (fr 15 (by omega)), rw_k (fr 62 (by omega))]; exact har
      · obtain ⟨⟨⟨y1, ⟨y2x, y2⟩, y3, y4, y5, y6, y7, y8, y9, y10⟩, yr⟩, z1, z2, z3, z4, z5, z6⟩ := hA
        have u : ∀ k, ¬ k = 6 ∧ ¬ k = 41 ∧ ¬ k = 49 ∧ ¬ k = 78 → ∀ {e : cx_E}, w k = e → w3 k = e := fun k y e q => (fr k y).trans q
        exact ⟨gs, ch, pn, tb, sr, fg, gm, ct, mr, or_, rw, pw2, od, ⟨⟨⟨y1, ⟨y2x, u 13 (by omega) y2⟩, u 17 (by omega) y3, u 19 (by omega) y4, u 20 (by omega) y5, u 24 (by omega) y6, u 29 (by omega) y7, u 30 (by omega) y8, u 31 (by omega) y9, u 35 (by omega) y10⟩, yr⟩, u 1 (by omega) z1, u 28 (by omega) z2, z3, u 33 (by omega) z4, z5, u 40 (by omega) z6⟩, u 36 (by omega) h36, u 37 (by omega) h37, hmr, u 34 (by omega) h34, hro, (bk 41 (by omega)).trans a41, fun e he => ⟨(hpw2 e he).trans (hro e he).1, (hro e he).2.1⟩, u 42 (by omega) h42, hor, hcel⟩
      · refine ⟨pa, dl, ch2, gr, so, la_, mr2, kp, sr2, lr, pr2, x0, x1, x2, x5, x7, hW.of fun k y => fr k (by omega), (fr 45 (by omega)).trans h45, (fr 81 (by omega)).trans h81, hmr2, (fr 76 (by omega)).trans h76, hkp, (fr 77 (by omega)).trans h77, hlr, c78, ⟨fun g p hg hp => ?_, fun o ho => ?_⟩, hcel2⟩
        · have h4 := (hP.2.1 g hg).2.1
          have hgn := (hP.2.1 g hg).1
          obtain ⟨q1, q2⟩ := hlr.1 g p hg hp
          exact ⟨(hpr2 _ (by omega)).trans q1, q2⟩
        · have ho : o < s 5 := ho
          obtain ⟨q1, q2⟩ := hlr.2 o ho
          exact ⟨(hpr2 _ (by omega)).trans q1, q2⟩
