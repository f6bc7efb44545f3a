/-! A first cell on both sides, and the last of the first calls. Own work. -/
theorem cell0_bad {p a d : Int32} (q : ¬ (pat p = true ∧ ¬ a < 1 ∧ ¬ 1000 < a ∧ ¬ d < 0 ∧ ¬ 1000 < d)) : some (Value.int (-1)) = some (Value.int (cell0 p a d)) := by unfold cell0; rw [if_neg q]
theorem cell0_ok {p a d : Int32} (q : pat p = true ∧ ¬ a < 1 ∧ ¬ 1000 < a ∧ ¬ d < 0 ∧ ¬ 1000 < d) : cell0 p a d = 0 := by unfold cell0; rw [if_pos q]
set_option maxHeartbeats 8000000 in
set_option maxRecDepth 100000 in
theorem p_Li_addCell {w : cx_W} (h : FC w) (p a d : Int32) : cx_MC mLi_addCell 11 0 0 [.ref 13, .int p, .int a, .int d] w 87 (fun r w2 => r = some (.int (cell0 p a d)) ∧ (∀ k, 45 ≤ k → w2 k = w k) ∧ w2 0 = oC 0 ∧ w2 6 = oCi 0 0 0 0 0 0) := by
  unfold FC at h
  refine cx_met 300 mLi_addCell_ok rfl ?_
  show cx_vc 300 none mLi_addCell 11 0 0 _ _ 0 [some (.ref 13), some (.int p), some (.int a), some (.int d)] [] w (87, 0, 0)
  simp (decide := true) only [BmLi_addCell, BSC, h, EV, EW, CT, ev_o, ev_is, ev_gd, vp_in, List.length_cons, List.length_nil, Nat.reduceLT, Nat.reduceAdd, Nat.reduceEqDiff, Nat.reduceLeDiff, Nat.reduceMul, Int32.reduceLT, Int32.reduceLE, Int32.reduceAdd, Int32.reduceSub, Int32.reduceToNatClampNeg, reduceIte, true_and, and_true, true_or, or_true, or_false, false_or, or_self, and_false, false_and, not_true_eq_false, not_false_eq_true, false_imp_iff, true_imp_iff, implies_true]
  refine cx_cs1 10 0 0 (by decide) (c_Li_isPattern p (dd := 9)) fun r w2 h2 => ?_
  obtain ⟨rfl, rfl⟩ := h2
  by_cases hp : pat p = true
  · rw [if_pos hp]
    simp (decide := true) only [BmLi_addCell, BSC, h, EV, EW, CT, ev_o, ev_is, ev_gd, vp_in, List.length_cons, List.length_nil, Nat.reduceLT, Nat.reduceAdd, Nat.reduceEqDiff, Nat.reduceLeDiff, Nat.reduceMul, Int32.reduceLT, Int32.reduceLE, Int32.reduceAdd, Int32.reduceSub, Int32.reduceToNatClampNeg, reduceIte, true_and, and_true, true_or, or_true, or_false, false_or, or_self, and_false, false_and, not_true_eq_false, not_false_eq_true, false_imp_iff, true_imp_iff, implies_true]
    refine ⟨fun q => cell0_bad fun z => z.2.1 q, fun q1 => ⟨fun q2 => cell0_bad fun z => z.2.2.1 q2, fun q2 => ⟨fun q3 => cell0_bad fun z => z.2.2.2.1 q3, fun q3 => ⟨fun q4 => ?_, fun q4 => cell0_bad fun z => q4 (Int32.not_lt.mp z.2.2.2.2)⟩⟩⟩⟩
    have hc := cell0_ok ⟨hp, q1, q2, q3, Int32.not_lt.mpr q4⟩
    refine cx_cs1 10 0 0 (by decide) (w_Li_countDigits p 1 (dd := 9)) fun r w3 h3 => ?_
    obtain ⟨⟨y1, rfl⟩, rfl⟩ := h3
    simp (decide := true) only [BmLi_addCell, BSC, h, EV, EW, CT, ev_o, ev_is, ev_gd, vp_in, List.length_cons, List.length_nil, Nat.reduceLT, Nat.reduceAdd, Nat.reduceEqDiff, Nat.reduceLeDiff, Nat.reduceMul, Int32.reduceLT, Int32.reduceLE, Int32.reduceAdd, Int32.reduceSub, Int32.reduceToNatClampNeg, reduceIte, true_and, and_true, true_or, or_true, or_false, false_or, or_self, and_false, false_and, not_true_eq_false, not_false_eq_true, false_imp_iff, true_imp_iff, implies_true]
    refine cx_cs1 10 0 0 (by decide) (w_Li_countDigits p 3 (dd := 9)) fun r w3 h3 => ?_
    obtain ⟨⟨y2, rfl⟩, rfl⟩ := h3
    simp (decide := true) only [BmLi_addCell, BSC, h, EV, EW, CT, ev_o, ev_is, ev_gd, vp_in, List.length_cons, List.length_nil, Nat.reduceLT, Nat.reduceAdd, Nat.reduceEqDiff, Nat.reduceLeDiff, Nat.reduceMul, Int32.reduceLT, Int32.reduceLE, Int32.reduceAdd, Int32.reduceSub, Int32.reduceToNatClampNeg, reduceIte, true_and, and_true, true_or, or_true, or_false, false_or, or_self, and_false, false_and, not_true_eq_false, not_false_eq_true, false_imp_iff, true_imp_iff, implies_true]
    refine cx_cs1 10 0 0 (by decide) (w_Li_tableOf p _ (dd := 8)) fun r w3 h3 => ?_
    obtain ⟨⟨y3, rfl⟩, rfl⟩ := h3
    simp (decide := true) only [BmLi_addCell, BSC, h, hc, EV, EW, CT, ev_o, ev_is, ev_gd, vp_in, List.length_cons, List.length_nil, Nat.reduceLT, Nat.reduceAdd, Nat.reduceEqDiff, Nat.reduceLeDiff, Nat.reduceMul, Int32.reduceLT, Int32.reduceLE, Int32.reduceAdd, Int32.reduceSub, Int32.reduceToNatClampNeg, reduceIte, true_and, and_true, true_or, or_true, or_false, false_or, or_self, and_false, false_and, not_true_eq_false, not_false_eq_true, false_imp_iff, true_imp_iff, implies_true]
    intro k hk
    simp (disch := omega) only [if_neg]
  · rw [if_neg hp]
    simp (decide := true) only [BmLi_addCell, BSC, h, EV, EW, CT, ev_o, ev_is, ev_gd, vp_in, List.length_cons, List.length_nil, Nat.reduceLT, Nat.reduceAdd, Nat.reduceEqDiff, Nat.reduceLeDiff, Nat.reduceMul, Int32.reduceLT, Int32.reduceLE, Int32.reduceAdd, Int32.reduceSub, Int32.reduceToNatClampNeg, reduceIte, true_and, and_true, true_or, or_true, or_false, false_or, or_self, and_false, false_and, not_true_eq_false, not_false_eq_true, false_imp_iff, true_imp_iff, implies_true]
    exact cell0_bad fun z => hp z.1
set_option maxHeartbeats 8000000 in
set_option maxRecDepth 100000 in
theorem p_C_cell {w : cx_W} (h : FC w) (p a d : Int32) : cx_MC mC_cell 12 0 0 [.ref 0, .int p, .int a, .int d] w 87 (fun r w2 => r = some (.int (cell0 p a d)) ∧ (∀ k, 45 ≤ k → w2 k = w k)) := by
  have h0 := h
  unfold FC at h
  refine cx_met 300 mC_cell_ok rfl ?_
  show cx_vc 300 none mC_cell 12 0 0 _ _ 0 [some (.ref 0), some (.int p), some (.int a), some (.int d)] [] w (87, 0, 0)
  simp (decide := true) only [BmC_cell, BSC, h, EV, EW, CT, ev_o, ev_is, ev_gd, vp_in, List.length_cons, List.length_nil, Nat.reduceLT, Nat.reduceAdd, Nat.reduceEqDiff, Nat.reduceLeDiff, Nat.reduceMul, Int32.reduceLT, Int32.reduceLE, Int32.reduceAdd, Int32.reduceSub, Int32.reduceToNatClampNeg, reduceIte, true_and, and_true, true_or, or_true, or_false, false_or, or_self, and_false, false_and, not_true_eq_false, not_false_eq_true, false_imp_iff, true_imp_iff, implies_true]
  refine cx_cs1 11 0 0 (by decide) (p_Li_addCell h0 p a d) fun r w2 h2 => ?_
  obtain ⟨rfl, hk, g0, g6⟩ := h2
  simp (decide := true) only [BmC_cell, BSC, g0, g6, EV, EW, CT, ev_o, ev_is, ev_gd, vp_in, List.length_cons, List.length_nil, Nat.reduceLT, Nat.reduceAdd, Nat.reduceEqDiff, Nat.reduceLeDiff, Nat.reduceMul, Int32.reduceLT, Int32.reduceLE, Int32.reduceAdd, Int32.reduceSub, Int32.reduceToNatClampNeg, reduceIte, true_and, and_true, true_or, or_true, or_false, false_or, or_self, and_false, false_and, not_true_eq_false, not_false_eq_true, false_imp_iff, true_imp_iff, implies_true]
  refine ⟨fun _ => hk, fun _ => fun k hk2 => ?_⟩
  simp (disch := omega) only [if_neg]
  exact hk k hk2
set_option maxHeartbeats 8000000 in
set_option maxRecDepth 100000 in
theorem p_M_cell {w : cx_W} (h : FM w) (p a d : Int32) : cx_MC mM_cell 12 0 0 [.ref 45, .int p, .int a, .int d] w 87 (fun r w2 => r = some (.int (cell0 p a d)) ∧ True) := by
  unfold FM at h
  refine cx_met 300 mM_cell_ok rfl ?_
  show cx_vc 300 none mM_cell 12 0 0 _ _ 0 [some (.ref 45), some (.int p), some (.int a), some (.int d)] [] w (87, 0, 0)
  simp (decide := true) only [BmM_cell, BSM, h, EV, EW, CT, ev_o, ev_is, ev_gd, vp_in, List.length_cons, List.length_nil, Nat.reduceLT, Nat.reduceAdd, Nat.reduceEqDiff, Nat.reduceLeDiff, Nat.reduceMul, Int32.reduceLT, Int32.reduceLE, Int32.reduceAdd, Int32.reduceSub, Int32.reduceToNatClampNeg, reduceIte, true_and, and_true, true_or, or_true, or_false, false_or, or_self, and_false, false_and, not_true_eq_false, not_false_eq_true, false_imp_iff, true_imp_iff, implies_true]
  refine cx_cs1 10 0 0 (by decide) (c_M_isPattern p) fun r w2 h2 => ?_
  obtain ⟨rfl, rfl⟩ := h2
  by_cases hp : pat p = true
  · rw [if_pos hp]
    simp (decide := true) only [BmM_cell, BSM, h, EV, EW, CT, ev_o, ev_is, ev_gd, vp_in, List.length_cons, List.length_nil, Nat.reduceLT, Nat.reduceAdd, Nat.reduceEqDiff, Nat.reduceLeDiff, Nat.reduceMul, Int32.reduceLT, Int32.reduceLE, Int32.reduceAdd, Int32.reduceSub, Int32.reduceToNatClampNeg, reduceIte, true_and, and_true, true_or, or_true, or_false, false_or, or_self, and_false, false_and, not_true_eq_false, not_false_eq_true, false_imp_iff, true_imp_iff, implies_true]
    refine ⟨fun q => cell0_bad fun z => z.2.1 q, fun q1 => ⟨fun q2 => cell0_bad fun z => z.2.2.1 q2, fun q2 => ⟨fun q3 => cell0_bad fun z => z.2.2.2.1 q3, fun q3 => ⟨fun q4 => ?_, fun q4 => cell0_bad fun z => q4 (Int32.not_lt.mp z.2.2.2.2)⟩⟩⟩⟩
    have hc := cell0_ok ⟨hp, q1, q2, q3, Int32.not_lt.mpr q4⟩
    refine cx_cs1 1 0 0 (by decide) (c_M_changed (N := 0) (x1 := 0) (x2 := 0) (x3 := 0) (x4 := 0) (x5 := 1) (x6 := 0) (x7 := 0) (x8 := 0) (x9 := 0) (f := zi) (g := zi) (by decide) (by simp only [cx_up, Nat.reduceEqDiff, reduceIte]; rw [nI_0]) (by simp only [cx_up, Nat.reduceEqDiff, reduceIte]; exact h.2.2.2.1) (by simp only [cx_up, Nat.reduceEqDiff, reduceIte]; exact h.2.2.2.2.1)) fun r w3 h3 => ?_
    obtain ⟨rfl, g45, -⟩ := h3
    simp (decide := true) only [BmM_cell, BSM, g45, hc, EV, EW, CT, ev_o, ev_is, ev_gd, vp_in, List.length_cons, List.length_nil, Nat.reduceLT, Nat.reduceAdd, Nat.reduceEqDiff, Nat.reduceLeDiff, Nat.reduceMul, Int32.reduceLT, Int32.reduceLE, Int32.reduceAdd, Int32.reduceSub, Int32.reduceToNatClampNeg, reduceIte, true_and, and_true, true_or, or_true, or_false, false_or, or_self, and_false, false_and, not_true_eq_false, not_false_eq_true, false_imp_iff, true_imp_iff, implies_true]
  · rw [if_neg hp]
    simp (decide := true) only [BmM_cell, BSM, h, EV, EW, CT, ev_o, ev_is, ev_gd, vp_in, List.length_cons, List.length_nil, Nat.reduceLT, Nat.reduceAdd, Nat.reduceEqDiff, Nat.reduceLeDiff, Nat.reduceMul, Int32.reduceLT, Int32.reduceLE, Int32.reduceAdd, Int32.reduceSub, Int32.reduceToNatClampNeg, reduceIte, true_and, and_true, true_or, or_true, or_false, false_or, or_self, and_false, false_and, not_true_eq_false, not_false_eq_true, false_imp_iff, true_imp_iff, implies_true]
    exact cell0_bad fun z => hp z.1
set_option maxHeartbeats 8000000 in
set_option maxRecDepth 100000 in
theorem p_M_undriven {w : cx_W} (h : FM w) : cx_MC mM_undriven 10 0 0 [.ref 45] w 87 (fun r w2 => r = some (.int 0) ∧ w2 = w) := by
  unfold FM at h
  refine cx_met 60 mM_undriven_ok rfl ?_
  show cx_vc 60 none mM_undriven 10 0 0 _ _ 0 [some (.ref 45), none] [] w (87, 0, 0)
  simp (decide := true) only [BmM_undriven, BSM, h, EV, EW, CT, ev_o, ev_is, ev_gd, vp_in, List.length_cons, List.length_nil, Nat.reduceLT, Nat.reduceAdd, Nat.reduceEqDiff, Nat.reduceLeDiff, Nat.reduceMul, Int32.reduceLT, Int32.reduceLE, Int32.reduceAdd, Int32.reduceSub, Int32.reduceToNatClampNeg, reduceIte, true_and, and_true, true_or, or_true, or_false, false_or, or_self, and_false, false_and, not_true_eq_false, not_false_eq_true, false_imp_iff, true_imp_iff, implies_true]
  refine cx_run 60 mM_undriven_mo ?_
  simp (decide := true) only [BmM_undriven, BSM, h, EV, EW, CT, ev_o, ev_is, ev_gd, vp_in, List.length_cons, List.length_nil, Nat.reduceLT, Nat.reduceAdd, Nat.reduceEqDiff, Nat.reduceLeDiff, Nat.reduceMul, Int32.reduceLT, Int32.reduceLE, Int32.reduceAdd, Int32.reduceSub, Int32.reduceToNatClampNeg, reduceIte, true_and, and_true, true_or, or_true, or_false, false_or, or_self, and_false, false_and, not_true_eq_false, not_false_eq_true, false_imp_iff, true_imp_iff, implies_true]
set_option maxHeartbeats 8000000 in
set_option maxRecDepth 100000 in
theorem p_M_ring {w : cx_W} (h : FM w) : cx_MC mM_ring 10 0 0 [.ref 45] w 87 (fun r w2 => r = some (.int 0) ∧ w2 = w) := by
  unfold FM at h
  refine cx_met 60 mM_ring_ok rfl ?_
  show cx_vc 60 none mM_ring 10 0 0 _ _ 0 [some (.ref 45), none, none, none] [] w (87, 0, 0)
  simp (decide := true) only [BmM_ring, BSM, h, EV, EW, CT, ev_o, ev_is, ev_gd, vp_in, List.length_cons, List.length_nil, Nat.reduceLT, Nat.reduceAdd, Nat.reduceEqDiff, Nat.reduceLeDiff, Nat.reduceMul, Int32.reduceLT, Int32.reduceLE, Int32.reduceAdd, Int32.reduceSub, Int32.reduceToNatClampNeg, reduceIte, true_and, and_true, true_or, or_true, or_false, false_or, or_self, and_false, false_and, not_true_eq_false, not_false_eq_true, false_imp_iff, true_imp_iff, implies_true]
  refine cx_run 60 mM_ring_mo ?_
  simp (decide := true) only [BmM_ring, BSM, h, EV, EW, CT, ev_o, ev_is, ev_gd, vp_in, List.length_cons, List.length_nil, Nat.reduceLT, Nat.reduceAdd, Nat.reduceEqDiff, Nat.reduceLeDiff, Nat.reduceMul, Int32.reduceLT, Int32.reduceLE, Int32.reduceAdd, Int32.reduceSub, Int32.reduceToNatClampNeg, reduceIte, true_and, and_true, true_or, or_true, or_false, false_or, or_self, and_false, false_and, not_true_eq_false, not_false_eq_true, false_imp_iff, true_imp_iff, implies_true]
set_option maxHeartbeats 8000000 in
set_option maxRecDepth 100000 in
theorem p_M_hasCell {w : cx_W} (h : FM w) (p : Int32) : cx_MC mM_hasCell 10 0 0 [.ref 45, .int p] w 87 (fun r w2 => r = some (.int 0) ∧ w2 = w) := by
  unfold FM at h
  refine cx_met 60 mM_hasCell_ok rfl ?_
  show cx_vc 60 none mM_hasCell 10 0 0 _ _ 0 [some (.ref 45), some (.int p), none] [] w (87, 0, 0)
  simp (decide := true) only [BmM_hasCell, BSM, h, EV, EW, CT, ev_o, ev_is, ev_gd, vp_in, List.length_cons, List.length_nil, Nat.reduceLT, Nat.reduceAdd, Nat.reduceEqDiff, Nat.reduceLeDiff, Nat.reduceMul, Int32.reduceLT, Int32.reduceLE, Int32.reduceAdd, Int32.reduceSub, Int32.reduceToNatClampNeg, reduceIte, true_and, and_true, true_or, or_true, or_false, false_or, or_self, and_false, false_and, not_true_eq_false, not_false_eq_true, false_imp_iff, true_imp_iff, implies_true]
  refine cx_run 60 mM_hasCell_mo ?_
  simp (decide := true) only [BmM_hasCell, BSM, h, EV, EW, CT, ev_o, ev_is, ev_gd, vp_in, List.length_cons, List.length_nil, Nat.reduceLT, Nat.reduceAdd, Nat.reduceEqDiff, Nat.reduceLeDiff, Nat.reduceMul, Int32.reduceLT, Int32.reduceLE, Int32.reduceAdd, Int32.reduceSub, Int32.reduceToNatClampNeg, reduceIte, true_and, and_true, true_or, or_true, or_false, false_or, or_self, and_false, false_and, not_true_eq_false, not_false_eq_true, false_imp_iff, true_imp_iff, implies_true]
set_option maxHeartbeats 8000000 in
set_option maxRecDepth 100000 in
theorem p_M_map {w : cx_W} (h : FM w) : cx_MC mM_map 12 0 0 [.ref 45] w 87 (fun r w2 => r = some (.int (-5)) ∧ True) := by
  have h0 := h
  unfold FM at h
  refine cx_met 60 mM_map_ok rfl ?_
  show cx_vc 60 none mM_map 12 0 0 _ _ 0 [some (.ref 45)] [] w (87, 0, 0)
  simp (decide := true) only [BmM_map, BSM, h, EV, EW, CT, ev_o, ev_is, ev_gd, vp_in, List.length_cons, List.length_nil, Nat.reduceLT, Nat.reduceAdd, Nat.reduceEqDiff, Nat.reduceLeDiff, Nat.reduceMul, Int32.reduceLT, Int32.reduceLE, Int32.reduceAdd, Int32.reduceSub, Int32.reduceToNatClampNeg, reduceIte, true_and, and_true, true_or, or_true, or_false, false_or, or_self, and_false, false_and, not_true_eq_false, not_false_eq_true, false_imp_iff, true_imp_iff, implies_true]
  refine cx_cs1 10 0 0 (by decide) (p_M_undriven h0) fun r w2 h2 => ?_
  obtain ⟨rfl, rfl⟩ := h2
  simp (decide := true) only [BmM_map, BSM, h, EV, EW, CT, ev_o, ev_is, ev_gd, vp_in, List.length_cons, List.length_nil, Nat.reduceLT, Nat.reduceAdd, Nat.reduceEqDiff, Nat.reduceLeDiff, Nat.reduceMul, Int32.reduceLT, Int32.reduceLE, Int32.reduceAdd, Int32.reduceSub, Int32.reduceToNatClampNeg, reduceIte, true_and, and_true, true_or, or_true, or_false, false_or, or_self, and_false, false_and, not_true_eq_false, not_false_eq_true, false_imp_iff, true_imp_iff, implies_true]
  refine cx_cs1 10 0 0 (by decide) (p_M_ring h0) fun r w2 h2 => ?_
  obtain ⟨rfl, rfl⟩ := h2
  simp (decide := true) only [BmM_map, BSM, h, EV, EW, CT, ev_o, ev_is, ev_gd, vp_in, List.length_cons, List.length_nil, Nat.reduceLT, Nat.reduceAdd, Nat.reduceEqDiff, Nat.reduceLeDiff, Nat.reduceMul, Int32.reduceLT, Int32.reduceLE, Int32.reduceAdd, Int32.reduceSub, Int32.reduceToNatClampNeg, reduceIte, true_and, and_true, true_or, or_true, or_false, false_or, or_self, and_false, false_and, not_true_eq_false, not_false_eq_true, false_imp_iff, true_imp_iff, implies_true]
  refine cx_cs1 10 0 0 (by decide) (p_M_hasCell h0 6) fun r w2 h2 => ?_
  obtain ⟨rfl, rfl⟩ := h2
  simp (decide := true) only [BmM_map, BSM, h, EV, EW, CT, ev_o, ev_is, ev_gd, vp_in, List.length_cons, List.length_nil, Nat.reduceLT, Nat.reduceAdd, Nat.reduceEqDiff, Nat.reduceLeDiff, Nat.reduceMul, Int32.reduceLT, Int32.reduceLE, Int32.reduceAdd, Int32.reduceSub, Int32.reduceToNatClampNeg, reduceIte, true_and, and_true, true_or, or_true, or_false, false_or, or_self, and_false, false_and, not_true_eq_false, not_false_eq_true, false_imp_iff, true_imp_iff, implies_true]
set_option maxHeartbeats 8000000 in
set_option maxRecDepth 100000 in
theorem p_M_clock {w : cx_W} (h : FM w) (a : Int32) : cx_MC mM_clock 12 0 0 [.ref 45, .int a] w 87 (fun r w2 => r = some (.int 0) ∧ True) := by
  have h0 := h
  unfold FM at h
  refine cx_met 60 mM_clock_ok rfl ?_
  show cx_vc 60 none mM_clock 12 0 0 _ _ 0 [some (.ref 45), some (.int a), none, none, none] [] w (87, 0, 0)
  simp (decide := true) only [BmM_clock, BSM, h, EV, EW, CT, ev_o, ev_is, ev_gd, vp_in, List.length_cons, List.length_nil, Nat.reduceLT, Nat.reduceAdd, Nat.reduceEqDiff, Nat.reduceLeDiff, Nat.reduceMul, Int32.reduceLT, Int32.reduceLE, Int32.reduceAdd, Int32.reduceSub, Int32.reduceToNatClampNeg, reduceIte, true_and, and_true, true_or, or_true, or_false, false_or, or_self, and_false, false_and, not_true_eq_false, not_false_eq_true, false_imp_iff, true_imp_iff, implies_true]
  refine cx_cs1 10 0 0 (by decide) (p_M_undriven h0) fun r w2 h2 => ?_
  obtain ⟨rfl, rfl⟩ := h2
  simp (decide := true) only [BmM_clock, BSM, h, EV, EW, CT, ev_o, ev_is, ev_gd, vp_in, List.length_cons, List.length_nil, Nat.reduceLT, Nat.reduceAdd, Nat.reduceEqDiff, Nat.reduceLeDiff, Nat.reduceMul, Int32.reduceLT, Int32.reduceLE, Int32.reduceAdd, Int32.reduceSub, Int32.reduceToNatClampNeg, reduceIte, true_and, and_true, true_or, or_true, or_false, false_or, or_self, and_false, false_and, not_true_eq_false, not_false_eq_true, false_imp_iff, true_imp_iff, implies_true]
  refine cx_run 60 mM_clock_mo ?_
  simp (decide := true) only [BmM_clock, BSM, h, EV, EW, CT, ev_o, ev_is, ev_gd, vp_in, List.length_cons, List.length_nil, Nat.reduceLT, Nat.reduceAdd, Nat.reduceEqDiff, Nat.reduceLeDiff, Nat.reduceMul, Int32.reduceLT, Int32.reduceLE, Int32.reduceAdd, Int32.reduceSub, Int32.reduceToNatClampNeg, reduceIte, true_and, and_true, true_or, or_true, or_false, false_or, or_self, and_false, false_and, not_true_eq_false, not_false_eq_true, false_imp_iff, true_imp_iff, implies_true]
  refine cx_run 60 mM_clock_mo ?_
  simp (decide := true) only [BmM_clock, BSM, h, EV, EW, CT, ev_o, ev_is, ev_gd, vp_in, List.length_cons, List.length_nil, Nat.reduceLT, Nat.reduceAdd, Nat.reduceEqDiff, Nat.reduceLeDiff, Nat.reduceMul, Int32.reduceLT, Int32.reduceLE, Int32.reduceAdd, Int32.reduceSub, Int32.reduceToNatClampNeg, reduceIte, true_and, and_true, true_or, or_true, or_false, false_or, or_self, and_false, false_and, not_true_eq_false, not_false_eq_true, false_imp_iff, true_imp_iff, implies_true]
  refine cx_run 60 mM_clock_mo ?_
  simp (decide := true) only [BmM_clock, BSM, h, EV, EW, CT, ev_o, ev_is, ev_gd, vp_in, List.length_cons, List.length_nil, Nat.reduceLT, Nat.reduceAdd, Nat.reduceEqDiff, Nat.reduceLeDiff, Nat.reduceMul, Int32.reduceLT, Int32.reduceLE, Int32.reduceAdd, Int32.reduceSub, Int32.reduceToNatClampNeg, reduceIte, true_and, and_true, true_or, or_true, or_false, false_or, or_self, and_false, false_and, not_true_eq_false, not_false_eq_true, false_imp_iff, true_imp_iff, implies_true]
theorem le196 {k : Nat} (h : k < 2 ^ 31) : ((196 : Int32) ≤ nI k) = (196 ≤ k) := propext (nI_leI (a := 196) (by decide) h)
set_option maxHeartbeats 8000000 in
theorem reset_loop {x0 x1 x2 x3 x4 x5 x6 x7 x8 x9 : Int32} : ∀ (m i : Nat) (w1 : cx_W) (f g : Nat → Int64), i + m = 196 → w1 45 = oM x0 x1 x2 x3 x4 x5 x6 x7 x8 x9 → w1 77 = al 196 f → w1 78 = al 196 g →
    cx_OK none mM_reset 12 0 0 (fun r _ _ => r = none) 30 [some (.ref 45), some (.int (nI i))] [] w1 (87, 0, 0) := by
  intro m
  induction m with
  | zero =>
    intro i w1 f g hi h45 h77 h78
    have hi2 : i = 196 := by omega
    subst hi2
    refine cx_run 40 mM_reset_mo ?_
    simp only [BmM_reset, h45, le196 (k := 196) (by decide), Nat.le_refl, not_true_eq_false, false_imp_iff, true_imp_iff, EV, EW, ev_o, ev_is, ev_gd, List.length_cons, List.length_nil, Nat.reduceLT, Nat.reduceAdd, Nat.reduceEqDiff, Nat.reduceLeDiff, reduceIte, true_and, and_true, true_or, or_true]
  | succ m ih =>
    intro i w1 f g hi h45 h77 h78
    refine cx_run 40 mM_reset_mo ?_
    have hlt : ¬ 196 ≤ i := by omega
    have hv : vp_in (nI i) 196 := nI_in (by omega) (by omega)
    simp only [BmM_reset, h45, h77, h78, hv, le196 (k := i) (by omega), hlt, nI_1, not_true_eq_false, not_false_eq_true, false_imp_iff, true_imp_iff, EV, EW, ev_o, ev_is, ev_gd, List.length_cons, List.length_nil, Nat.reduceLT, Nat.reduceAdd, Nat.reduceEqDiff, Nat.reduceLeDiff, reduceIte, true_and, and_true, true_or, or_true]
    refine ih (i + 1) _ f (vp_updL g (nI i).toNatClampNeg (f (nI i).toNatClampNeg)) (by omega) ?_ ?_ ?_
    · simp only [cx_up, Nat.reduceEqDiff, reduceIte]; exact h45
    · simp only [cx_up, Nat.reduceEqDiff, reduceIte]; exact h77
    · simp only [cx_up, reduceIte]
set_option maxHeartbeats 8000000 in
set_option maxRecDepth 100000 in
theorem p_M_reset {w : cx_W} (h : FM w) : cx_MC mM_reset 12 0 0 [.ref 45] w 87 (fun r w2 => r = none ∧ True) := by
  unfold FM at h
  refine cx_met 60 mM_reset_ok rfl ?_
  show cx_vc 60 none mM_reset 12 0 0 _ _ 0 [some (.ref 45), none] [] w (87, 0, 0)
  simp (decide := true) only [BmM_reset, BSM, h, EV, EW, CT, ev_o, ev_is, ev_gd, vp_in, List.length_cons, List.length_nil, Nat.reduceLT, Nat.reduceAdd, Nat.reduceEqDiff, Nat.reduceLeDiff, Nat.reduceMul, Int32.reduceLT, Int32.reduceLE, Int32.reduceAdd, Int32.reduceSub, Int32.reduceToNatClampNeg, reduceIte, true_and, and_true, true_or, or_true, or_false, false_or, or_self, and_false, false_and, not_true_eq_false, not_false_eq_true, false_imp_iff, true_imp_iff, implies_true]
  refine cx_run 60 mM_reset_mo ?_
  simp (decide := true) only [BmM_reset, BSM, h, EV, EW, CT, ev_o, ev_is, ev_gd, vp_in, List.length_cons, List.length_nil, Nat.reduceLT, Nat.reduceAdd, Nat.reduceEqDiff, Nat.reduceLeDiff, Nat.reduceMul, Int32.reduceLT, Int32.reduceLE, Int32.reduceAdd, Int32.reduceSub, Int32.reduceToNatClampNeg, reduceIte, true_and, and_true, true_or, or_true, or_false, false_or, or_self, and_false, false_and, not_true_eq_false, not_false_eq_true, false_imp_iff, true_imp_iff, implies_true]
  obtain ⟨h45, h46, h47, h48, h49, h50, h51, h52, h53, h54, h55, h56, h57, h58, h59, h60, h61, h62, h63, h64, h65, h66, h67, h68, h69, h70, h71, h72, h73, h74, h75, h76, h77, h78, h79, h80, h81, h82, h83, h84, h85, h86⟩ := h
  exact reset_loop 196 0 w _ _ rfl h45 h77 h78
