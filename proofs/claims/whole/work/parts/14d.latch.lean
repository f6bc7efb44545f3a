/-! Building, the class: latch. Own work. -/
set_option maxHeartbeats 8000000 in
theorem c_Ci_addLatch_full {w : cx_W} {G : Gr} {nc ic lc oc : Nat} {ib pb : Int32} {nn nl dv on : Nat → Int32} (a : Int32) (hG : GW w G) (hn : G.1 ≤ 48) (hC : CW w nc ic lc oc ib pb nn nl dv on) (hnc : nc ≤ 40) (hlc : lc ≤ 6) (hf : nc = 40 ∨ lc = 6 ∨ G.1 = 48) :
    cx_MC mCi_addLatch 11 0 0 [.ref 6, .int a] w 87 (fun r w2 => r = some (.int (-2)) ∧ w2 = w) := by
  obtain ⟨h1, h2, h3, h4⟩ := hG
  obtain ⟨h6, h7, h8, h9, h10⟩ := hC
  refine cx_met 200 mCi_addLatch_ok rfl ?_
  show cx_vc 200 none mCi_addLatch 11 0 0 _ _ 0 [some (.ref 6), some (.int a), none] [] w (87, 0, 0)
  have e1 := eqc (a := nc) (c := 40) (x := 40) rfl (by omega) (by decide)
  have e2 := eqc (a := lc) (c := 6) (x := 6) rfl (by omega) (by decide)
  have e3 := eqc (a := G.1) (c := 48) (x := 48) rfl (by omega) (by decide)
  by_cases a1 : nc = 40
  · have E1 := e1.trans (eq_true a1)
    simp (decide := true) only [BmCi_addLatch, BmGr_size, h1, h6, E1, EV, EW, CT, ev_o, ev_is, ev_gd, List.length_cons, List.length_nil, Nat.reduceLT, Nat.reduceAdd, Nat.reduceEqDiff, Nat.reduceLeDiff, Int32.reduceLT, Int32.reduceLE, reduceIte, true_and, and_true, true_or, or_true, not_true_eq_false, not_false_eq_true, false_imp_iff, true_imp_iff, implies_true]
  · have E1 := e1.trans (eq_false a1)
    by_cases b : lc = 6
    · have E2 := e2.trans (eq_true b)
      simp (decide := true) only [BmCi_addLatch, BmGr_size, h1, h6, E1, E2, EV, EW, CT, ev_o, ev_is, ev_gd, List.length_cons, List.length_nil, Nat.reduceLT, Nat.reduceAdd, Nat.reduceEqDiff, Nat.reduceLeDiff, Int32.reduceLT, Int32.reduceLE, reduceIte, true_and, and_true, true_or, or_true, not_true_eq_false, not_false_eq_true, false_imp_iff, true_imp_iff, implies_true]
    · have E2 := e2.trans (eq_false b)
      have E3 := e3.trans (eq_true (by omega))
      simp (decide := true) only [BmCi_addLatch, BmGr_size, h1, h6, E1, E2, E3, EV, EW, CT, ev_o, ev_is, ev_gd, List.length_cons, List.length_nil, Nat.reduceLT, Nat.reduceAdd, Nat.reduceEqDiff, Nat.reduceLeDiff, Int32.reduceLT, Int32.reduceLE, reduceIte, true_and, and_true, true_or, or_true, not_true_eq_false, not_false_eq_true, false_imp_iff, true_imp_iff, implies_true]
set_option maxHeartbeats 8000000 in
theorem c_Ci_addLatch {w : cx_W} {G : Gr} {nc ic lc oc : Nat} {ib pb : Int32} {nn nl dv on od : Nat → Int32} (a : Int32) (hG : GW w G) (h5 : w 5 = ai 48 od) (hC : CW w nc ic lc oc ib pb nn nl dv on) (hnc : nc < 40) (hlc : lc < 6) (hn : G.1 < 48) :
    cx_MC mCi_addLatch 11 0 0 [.ref 6, .int a] w 87 (fun r w2 => r = some (.int (nI nc)) ∧ w2 0 = w 0 ∧ GW w2 (addN G 1 (-1) (-1)) ∧ w2 5 = ai 48 (upd od G.1 (nI lc)) ∧ CW w2 (nc + 1) ic (lc + 1) oc (ib ||| a <<< (nI lc &&& 31)) pb (upd nn nc (nI G.1)) (upd nl nc (nI lc)) (upd dv lc (-1)) on ∧ ∀ k, 9 < k → w2 k = w k) := by
  obtain ⟨h1, h2, h3, h4⟩ := hG
  obtain ⟨h6, h7, h8, h9, h10⟩ := hC
  refine cx_met 200 mCi_addLatch_ok rfl ?_
  show cx_vc 200 none mCi_addLatch 11 0 0 _ _ 0 [some (.ref 6), some (.int a), none] [] w (87, 0, 0)
  have E1 := (eqc (a := nc) (c := 40) (x := 40) rfl (by omega) (by decide)).trans (eq_false (by omega))
  have E2 := (eqc (a := lc) (c := 6) (x := 6) rfl (by omega) (by decide)).trans (eq_false (by omega))
  have E3 := (eqc (a := G.1) (c := 48) (x := 48) rfl (by omega) (by decide)).trans (eq_false (by omega))
  have v1 : vp_in (nI G.1) 48 := nI_in hn (by decide)
  have v2 : vp_in (nI nc) 40 := nI_in hnc (by decide)
  have v3 : vp_in (nI lc) 6 := nI_in hlc (by decide)
  simp (decide := true) only [BmCi_addLatch, BmCi_addNet, BmGr_size, BmGr_makeLatch, BmGr_make, h1, h2, h3, h4, h5, h6, h7, h8, h9, E1, E2, E3, v1, v2, v3, nI_clamp (n := G.1) (by omega), nI_clamp (n := nc) (by omega), nI_clamp (n := lc) (by omega), nI_1, EV, EW, CT, ev_o, ev_is, ev_gd, List.length_cons, List.length_nil, Nat.reduceLT, Nat.reduceAdd, Nat.reduceEqDiff, Nat.reduceLeDiff, Int32.reduceLT, Int32.reduceLE, reduceIte, true_and, and_true, true_or, or_true, not_true_eq_false, not_false_eq_true, false_imp_iff, true_imp_iff, implies_true]
  refine ⟨⟨?_, ?_, ?_, ?_⟩, ⟨?_, ?_, ?_, ?_, ?_⟩, fun k hk => ?_⟩
  all_goals first
    | (simp only [cx_up, Nat.reduceEqDiff, reduceIte]; done)
    | (simp only [cx_up, Nat.reduceEqDiff, reduceIte]; first | rfl | exact h9 | exact h10)
    | (simp (disch := omega) only [cx_up, if_neg]; done)
set_option maxHeartbeats 8000000 in
theorem c_C_latch_bad {w : cx_W} (a : Int32) (ha : ¬ (a = 0 ∨ a = 1)) : cx_MC mC_latch 12 0 0 [.ref 0, .int a] w 87 (fun r w2 => r = some (.int (-1)) ∧ w2 = w) := by
  refine cx_met 60 mC_latch_ok rfl ?_
  show cx_vc 60 none mC_latch 12 0 0 _ _ 0 [some (.ref 0), some (.int a)] [] w (87, 0, 0)
  have a0 : (a = 0) = False := eq_false fun q => ha (Or.inl q)
  have a1 : (a = 1) = False := eq_false fun q => ha (Or.inr q)
  simp (decide := true) only [BmC_latch, a0, a1, EV, EW, CT, ev_o, ev_is, ev_gd, List.length_cons, List.length_nil, Nat.reduceLT, Nat.reduceAdd, Nat.reduceEqDiff, Nat.reduceLeDiff, Int32.reduceLT, Int32.reduceLE, reduceIte, true_and, and_true, true_or, or_true, not_true_eq_false, not_false_eq_true, false_imp_iff, true_imp_iff, implies_true]
set_option maxHeartbeats 8000000 in
theorem c_C_latch_full {w : cx_W} {G : Gr} {m : Int32} {nc ic lc oc : Nat} {ib pb : Int32} {nn nl dv on : Nat → Int32} (a : Int32) (ha : a = 0 ∨ a = 1) (h0 : w 0 = oC m) (hG : GW w G) (hn : G.1 ≤ 48) (hC : CW w nc ic lc oc ib pb nn nl dv on) (hnc : nc ≤ 40) (hlc : lc ≤ 6) (hf : nc = 40 ∨ lc = 6 ∨ G.1 = 48) :
    cx_MC mC_latch 12 0 0 [.ref 0, .int a] w 87 (fun r w2 => r = some (.int (-2)) ∧ w2 = w) := by
  have h6 := hC.1
  refine cx_met 60 mC_latch_ok rfl ?_
  show cx_vc 60 none mC_latch 12 0 0 _ _ 0 [some (.ref 0), some (.int a)] [] w (87, 0, 0)
  rcases ha with rfl | rfl
  · simp (decide := true) only [BmC_latch, BSC, h0, h6, EV, EW, CT, ev_o, ev_is, ev_gd, List.length_cons, List.length_nil, Nat.reduceLT, Nat.reduceAdd, Nat.reduceEqDiff, Nat.reduceLeDiff, Int32.reduceLT, Int32.reduceLE, reduceIte, true_and, and_true, true_or, or_true, not_true_eq_false, not_false_eq_true, false_imp_iff, true_imp_iff, implies_true]
    refine cx_cs1 11 0 0 (by decide) (c_Ci_addLatch_full 0 hG hn hC hnc hlc hf) fun r w2 q => ?_
    obtain ⟨rfl, rfl⟩ := q
    simp (decide := true) only [BmC_latch, BSC, h0, h6, EV, EW, CT, ev_o, ev_is, ev_gd, List.length_cons, List.length_nil, Nat.reduceLT, Nat.reduceAdd, Nat.reduceEqDiff, Nat.reduceLeDiff, Int32.reduceLT, Int32.reduceLE, reduceIte, true_and, and_true, true_or, or_true, not_true_eq_false, not_false_eq_true, false_imp_iff, true_imp_iff, implies_true]
  · simp (decide := true) only [BmC_latch, BSC, h0, h6, EV, EW, CT, ev_o, ev_is, ev_gd, List.length_cons, List.length_nil, Nat.reduceLT, Nat.reduceAdd, Nat.reduceEqDiff, Nat.reduceLeDiff, Int32.reduceLT, Int32.reduceLE, reduceIte, true_and, and_true, true_or, or_true, not_true_eq_false, not_false_eq_true, false_imp_iff, true_imp_iff, implies_true]
    refine cx_cs1 11 0 0 (by decide) (c_Ci_addLatch_full 1 hG hn hC hnc hlc hf) fun r w2 q => ?_
    obtain ⟨rfl, rfl⟩ := q
    simp (decide := true) only [BmC_latch, BSC, h0, h6, EV, EW, CT, ev_o, ev_is, ev_gd, List.length_cons, List.length_nil, Nat.reduceLT, Nat.reduceAdd, Nat.reduceEqDiff, Nat.reduceLeDiff, Int32.reduceLT, Int32.reduceLE, reduceIte, true_and, and_true, true_or, or_true, not_true_eq_false, not_false_eq_true, false_imp_iff, true_imp_iff, implies_true]
