/-! A first call on new objects: the class. Printed by gen_p1.py. -/
set_option maxHeartbeats 8000000 in
set_option maxRecDepth 100000 in
theorem p_C_input {w : cx_W} (h : FC w) : cx_MC mC_input 12 0 0 [.ref 0] w 87 (fun r w2 => r = some (.int 0) ∧ (∀ k, 45 ≤ k → w2 k = w k)) := by
  unfold FC at h
  refine cx_met 300 mC_input_ok rfl ?_
  show cx_vc 300 none mC_input 12 0 0 _ _ 0 [some (.ref 0)] [] w (87, 0, 0)
  simp (decide := true) only [BmC_input, BSC, h, EV, EW, CT, ev_o, ev_is, ev_gd, vp_in, List.length_cons, List.length_nil, Nat.reduceLT, Nat.reduceAdd, Nat.reduceEqDiff, Nat.reduceLeDiff, Nat.reduceMul, Int32.reduceLT, Int32.reduceLE, Int32.reduceAdd, Int32.reduceSub, Int32.reduceToNatClampNeg, reduceIte, true_and, and_true, true_or, or_true, or_false, false_or, or_self, and_false, false_and, not_true_eq_false, not_false_eq_true, false_imp_iff, true_imp_iff, implies_true]
  intro k hk
  simp (disch := omega) only [if_neg]
set_option maxHeartbeats 8000000 in
set_option maxRecDepth 100000 in
theorem p_C_nodes {w : cx_W} (h : FC w) : cx_MC mC_nodes 12 0 0 [.ref 0] w 87 (fun r w2 => r = some (.int 0) ∧ (∀ k, 45 ≤ k → w2 k = w k)) := by
  unfold FC at h
  refine cx_met 300 mC_nodes_ok rfl ?_
  show cx_vc 300 none mC_nodes 12 0 0 _ _ 0 [some (.ref 0)] [] w (87, 0, 0)
  simp (decide := true) only [BmC_nodes, BSC, h, EV, EW, CT, ev_o, ev_is, ev_gd, vp_in, List.length_cons, List.length_nil, Nat.reduceLT, Nat.reduceAdd, Nat.reduceEqDiff, Nat.reduceLeDiff, Nat.reduceMul, Int32.reduceLT, Int32.reduceLE, Int32.reduceAdd, Int32.reduceSub, Int32.reduceToNatClampNeg, reduceIte, true_and, and_true, true_or, or_true, or_false, false_or, or_self, and_false, false_and, not_true_eq_false, not_false_eq_true, false_imp_iff, true_imp_iff, implies_true]

set_option maxHeartbeats 8000000 in
set_option maxRecDepth 100000 in
theorem p_C_nodeOf {w : cx_W} (h : FC w) (a : Int32) : cx_MC mC_nodeOf 12 0 0 [.ref 0, .int a] w 87 (fun r w2 => r = some (.int (-1)) ∧ (∀ k, 45 ≤ k → w2 k = w k)) := by
  unfold FC at h
  refine cx_met 300 mC_nodeOf_ok rfl ?_
  show cx_vc 300 none mC_nodeOf 12 0 0 _ _ 0 [some (.ref 0), some (.int a)] [] w (87, 0, 0)
  simp (decide := true) only [BmC_nodeOf, BSC, h, EV, EW, CT, ev_o, ev_is, ev_gd, vp_in, List.length_cons, List.length_nil, Nat.reduceLT, Nat.reduceAdd, Nat.reduceEqDiff, Nat.reduceLeDiff, Nat.reduceMul, Int32.reduceLT, Int32.reduceLE, Int32.reduceAdd, Int32.reduceSub, Int32.reduceToNatClampNeg, reduceIte, true_and, and_true, true_or, or_true, or_false, false_or, or_self, and_false, false_and, not_true_eq_false, not_false_eq_true, false_imp_iff, true_imp_iff, implies_true]
  exact fun q1 q2 => absurd (Int32.not_lt.mp q1) q2
set_option maxHeartbeats 8000000 in
set_option maxRecDepth 100000 in
theorem p_Ci_addLatch {w : cx_W} (h : FC w) (a : Int32) : cx_MC mCi_addLatch 11 0 0 [.ref 6, .int a] w 87 (fun r w2 => r = some (.int 0) ∧ (∀ k, 45 ≤ k → w2 k = w k) ∧ w2 0 = oC 0 ∧ ∃ x0 x1 x2 x3 x4 x5, w2 6 = oCi x0 x1 x2 x3 x4 x5) := by
  unfold FC at h
  refine cx_met 300 mCi_addLatch_ok rfl ?_
  show cx_vc 300 none mCi_addLatch 11 0 0 _ _ 0 [some (.ref 6), some (.int a), none] [] w (87, 0, 0)
  simp (decide := true) only [BmCi_addLatch, BSC, h, EV, EW, CT, ev_o, ev_is, ev_gd, vp_in, List.length_cons, List.length_nil, Nat.reduceLT, Nat.reduceAdd, Nat.reduceEqDiff, Nat.reduceLeDiff, Nat.reduceMul, Int32.reduceLT, Int32.reduceLE, Int32.reduceAdd, Int32.reduceSub, Int32.reduceToNatClampNeg, reduceIte, true_and, and_true, true_or, or_true, or_false, false_or, or_self, and_false, false_and, not_true_eq_false, not_false_eq_true, false_imp_iff, true_imp_iff, implies_true]
  exact ⟨fun k hk => by simp (disch := omega) only [if_neg], _, _, _, _, _, _, rfl⟩
set_option maxHeartbeats 8000000 in
set_option maxRecDepth 100000 in
theorem p_C_latch {w : cx_W} (h : FC w) (a : Int32) : cx_MC mC_latch 12 0 0 [.ref 0, .int a] w 87 (fun r w2 => r = some (.int (if a = 0 ∨ a = 1 then 0 else -1)) ∧ (∀ k, 45 ≤ k → w2 k = w k)) := by
  unfold FC at h
  refine cx_met 300 mC_latch_ok rfl ?_
  show cx_vc 300 none mC_latch 12 0 0 _ _ 0 [some (.ref 0), some (.int a)] [] w (87, 0, 0)
  simp (decide := true) only [BmC_latch, BSC, h, EV, EW, CT, ev_o, ev_is, ev_gd, vp_in, List.length_cons, List.length_nil, Nat.reduceLT, Nat.reduceAdd, Nat.reduceEqDiff, Nat.reduceLeDiff, Nat.reduceMul, Int32.reduceLT, Int32.reduceLE, Int32.reduceAdd, Int32.reduceSub, Int32.reduceToNatClampNeg, reduceIte, true_and, and_true, true_or, or_true, or_false, false_or, or_self, and_false, false_and, not_true_eq_false, not_false_eq_true, false_imp_iff, true_imp_iff, implies_true]
  have fin : ∀ f, (a = 0 ∨ a = 1) → cx_CS 12 0 0 50 [Value.ref 6, Value.int a] w (87, 0, 0) (cx_vr2 (f + 60) none mC_latch 12 0 0 (cx_OK none mC_latch 12 0 0 fun r w_1 x => r = some (Value.int (if a = 0 ∨ a = 1 then 0 else -1)) ∧ ∀ (k : Nat), 45 ≤ k → w_1 k = w k) (fun r w_1 x => r = some (Value.int (if a = 0 ∨ a = 1 then 0 else -1)) ∧ ∀ (k : Nat), 45 ≤ k → w_1 k = w k) 20 [some (Value.ref 0), some (Value.int a)] [Value.ref 0]) := by
    intro f ha
    refine cx_cs1 11 0 0 (by decide) (p_Ci_addLatch (by unfold FC; exact h) a) fun r w2 h2 => ?_
    obtain ⟨rfl, hk, g0, x0, x1, x2, x3, x4, x5, g6⟩ := h2
    simp (decide := true) only [BmC_latch, BSC, g0, g6, if_pos ha, EV, EW, CT, ev_o, ev_is, ev_gd, vp_in, List.length_cons, List.length_nil, Nat.reduceLT, Nat.reduceAdd, Nat.reduceEqDiff, Nat.reduceLeDiff, Nat.reduceMul, Int32.reduceLT, Int32.reduceLE, Int32.reduceAdd, Int32.reduceSub, Int32.reduceToNatClampNeg, reduceIte, true_and, and_true, true_or, or_true, or_false, false_or, or_self, and_false, false_and, not_true_eq_false, not_false_eq_true, false_imp_iff, true_imp_iff, implies_true]
    intro k h9
    simp (disch := omega) only [if_neg]
    exact hk k h9
  refine ⟨fun q => fin 233 (Or.inl q), fun q => ⟨fun q2 => fin 230 (Or.inr q2), fun q2 => ?_⟩⟩
  rw [if_neg (fun z => z.elim q q2)]
set_option maxHeartbeats 8000000 in
set_option maxRecDepth 100000 in
theorem p_C_function {w : cx_W} (h : FC w) (a b c t : Int32) : cx_MC mC_function 12 0 0 [.ref 0, .int a, .int b, .int c, .int t] w 87 (fun r w2 => r = some (.int (-1)) ∧ (∀ k, 45 ≤ k → w2 k = w k)) := by
  unfold FC at h
  refine cx_met 300 mC_function_ok rfl ?_
  show cx_vc 300 none mC_function 12 0 0 _ _ 0 [some (.ref 0), some (.int a), some (.int b), some (.int c), some (.int t), none] [] w (87, 0, 0)
  simp (decide := true) only [BmC_function, BSC, h, EV, EW, CT, ev_o, ev_is, ev_gd, vp_in, List.length_cons, List.length_nil, Nat.reduceLT, Nat.reduceAdd, Nat.reduceEqDiff, Nat.reduceLeDiff, Nat.reduceMul, Int32.reduceLT, Int32.reduceLE, Int32.reduceAdd, Int32.reduceSub, Int32.reduceToNatClampNeg, reduceIte, true_and, and_true, true_or, or_true, or_false, false_or, or_self, and_false, false_and, not_true_eq_false, not_false_eq_true, false_imp_iff, true_imp_iff, implies_true]
  exact fun q1 q2 => absurd (Int32.not_lt.mp q1) q2
set_option maxHeartbeats 8000000 in
set_option maxRecDepth 100000 in
theorem p_C_drive {w : cx_W} (h : FC w) (a b : Int32) : cx_MC mC_drive 12 0 0 [.ref 0, .int a, .int b] w 87 (fun r w2 => r = some (.int 0) ∧ (∀ k, 45 ≤ k → w2 k = w k)) := by
  unfold FC at h
  refine cx_met 300 mC_drive_ok rfl ?_
  show cx_vc 300 none mC_drive 12 0 0 _ _ 0 [some (.ref 0), some (.int a), some (.int b)] [] w (87, 0, 0)
  simp (decide := true) only [BmC_drive, BSC, h, EV, EW, CT, ev_o, ev_is, ev_gd, vp_in, List.length_cons, List.length_nil, Nat.reduceLT, Nat.reduceAdd, Nat.reduceEqDiff, Nat.reduceLeDiff, Nat.reduceMul, Int32.reduceLT, Int32.reduceLE, Int32.reduceAdd, Int32.reduceSub, Int32.reduceToNatClampNeg, reduceIte, true_and, and_true, true_or, or_true, or_false, false_or, or_self, and_false, false_and, not_true_eq_false, not_false_eq_true, false_imp_iff, true_imp_iff, implies_true]
  exact fun q1 q2 => absurd (Int32.not_lt.mp q1) q2
set_option maxHeartbeats 8000000 in
set_option maxRecDepth 100000 in
theorem p_C_output {w : cx_W} (h : FC w) (a : Int32) : cx_MC mC_output 12 0 0 [.ref 0, .int a] w 87 (fun r w2 => r = some (.int (-1)) ∧ (∀ k, 45 ≤ k → w2 k = w k)) := by
  unfold FC at h
  refine cx_met 300 mC_output_ok rfl ?_
  show cx_vc 300 none mC_output 12 0 0 _ _ 0 [some (.ref 0), some (.int a)] [] w (87, 0, 0)
  simp (decide := true) only [BmC_output, BSC, h, EV, EW, CT, ev_o, ev_is, ev_gd, vp_in, List.length_cons, List.length_nil, Nat.reduceLT, Nat.reduceAdd, Nat.reduceEqDiff, Nat.reduceLeDiff, Nat.reduceMul, Int32.reduceLT, Int32.reduceLE, Int32.reduceAdd, Int32.reduceSub, Int32.reduceToNatClampNeg, reduceIte, true_and, and_true, true_or, or_true, or_false, false_or, or_self, and_false, false_and, not_true_eq_false, not_false_eq_true, false_imp_iff, true_imp_iff, implies_true]
  exact fun q1 q2 => absurd (Int32.not_lt.mp q1) q2
set_option maxHeartbeats 8000000 in
set_option maxRecDepth 100000 in
theorem p_C_part {w : cx_W} (h : FC w) (a b : Int32) : cx_MC mC_part 12 0 0 [.ref 0, .int a, .int b] w 87 (fun r w2 => r = some (.int (-1)) ∧ (∀ k, 45 ≤ k → w2 k = w k)) := by
  unfold FC at h
  refine cx_met 300 mC_part_ok rfl ?_
  show cx_vc 300 none mC_part 12 0 0 _ _ 0 [some (.ref 0), some (.int a), some (.int b)] [] w (87, 0, 0)
  simp (decide := true) only [BmC_part, BSC, h, EV, EW, CT, ev_o, ev_is, ev_gd, vp_in, List.length_cons, List.length_nil, Nat.reduceLT, Nat.reduceAdd, Nat.reduceEqDiff, Nat.reduceLeDiff, Nat.reduceMul, Int32.reduceLT, Int32.reduceLE, Int32.reduceAdd, Int32.reduceSub, Int32.reduceToNatClampNeg, reduceIte, true_and, and_true, true_or, or_true, or_false, false_or, or_self, and_false, false_and, not_true_eq_false, not_false_eq_true, false_imp_iff, true_imp_iff, implies_true]
  exact fun q1 q2 => absurd (Int32.not_lt.mp q1) q2
set_option maxHeartbeats 8000000 in
set_option maxRecDepth 100000 in
theorem p_C_area {w : cx_W} (h : FC w) : cx_MC mC_area 12 0 0 [.ref 0] w 87 (fun r w2 => r = some (.int (-6)) ∧ (∀ k, 45 ≤ k → w2 k = w k)) := by
  unfold FC at h
  refine cx_met 300 mC_area_ok rfl ?_
  show cx_vc 300 none mC_area 12 0 0 _ _ 0 [some (.ref 0)] [] w (87, 0, 0)
  simp (decide := true) only [BmC_area, BSC, h, EV, EW, CT, ev_o, ev_is, ev_gd, vp_in, List.length_cons, List.length_nil, Nat.reduceLT, Nat.reduceAdd, Nat.reduceEqDiff, Nat.reduceLeDiff, Nat.reduceMul, Int32.reduceLT, Int32.reduceLE, Int32.reduceAdd, Int32.reduceSub, Int32.reduceToNatClampNeg, reduceIte, true_and, and_true, true_or, or_true, or_false, false_or, or_self, and_false, false_and, not_true_eq_false, not_false_eq_true, false_imp_iff, true_imp_iff, implies_true]

set_option maxHeartbeats 8000000 in
set_option maxRecDepth 100000 in
theorem p_C_cellAt {w : cx_W} (h : FC w) (a : Int32) : cx_MC mC_cellAt 12 0 0 [.ref 0, .int a] w 87 (fun r w2 => r = some (.int (-6)) ∧ (∀ k, 45 ≤ k → w2 k = w k)) := by
  unfold FC at h
  refine cx_met 300 mC_cellAt_ok rfl ?_
  show cx_vc 300 none mC_cellAt 12 0 0 _ _ 0 [some (.ref 0), some (.int a)] [] w (87, 0, 0)
  simp (decide := true) only [BmC_cellAt, BSC, h, EV, EW, CT, ev_o, ev_is, ev_gd, vp_in, List.length_cons, List.length_nil, Nat.reduceLT, Nat.reduceAdd, Nat.reduceEqDiff, Nat.reduceLeDiff, Nat.reduceMul, Int32.reduceLT, Int32.reduceLE, Int32.reduceAdd, Int32.reduceSub, Int32.reduceToNatClampNeg, reduceIte, true_and, and_true, true_or, or_true, or_false, false_or, or_self, and_false, false_and, not_true_eq_false, not_false_eq_true, false_imp_iff, true_imp_iff, implies_true]

set_option maxHeartbeats 8000000 in
set_option maxRecDepth 100000 in
theorem p_C_period {w : cx_W} (h : FC w) : cx_MC mC_period 12 0 0 [.ref 0] w 87 (fun r w2 => r = some (.int (-6)) ∧ (∀ k, 45 ≤ k → w2 k = w k)) := by
  unfold FC at h
  refine cx_met 300 mC_period_ok rfl ?_
  show cx_vc 300 none mC_period 12 0 0 _ _ 0 [some (.ref 0)] [] w (87, 0, 0)
  simp (decide := true) only [BmC_period, BSC, h, EV, EW, CT, ev_o, ev_is, ev_gd, vp_in, List.length_cons, List.length_nil, Nat.reduceLT, Nat.reduceAdd, Nat.reduceEqDiff, Nat.reduceLeDiff, Nat.reduceMul, Int32.reduceLT, Int32.reduceLE, Int32.reduceAdd, Int32.reduceSub, Int32.reduceToNatClampNeg, reduceIte, true_and, and_true, true_or, or_true, or_false, false_or, or_self, and_false, false_and, not_true_eq_false, not_false_eq_true, false_imp_iff, true_imp_iff, implies_true]

set_option maxHeartbeats 8000000 in
set_option maxRecDepth 100000 in
theorem p_C_shortest {w : cx_W} (h : FC w) : cx_MC mC_shortest 12 0 0 [.ref 0] w 87 (fun r w2 => r = some (.int (-6)) ∧ (∀ k, 45 ≤ k → w2 k = w k)) := by
  unfold FC at h
  refine cx_met 300 mC_shortest_ok rfl ?_
  show cx_vc 300 none mC_shortest 12 0 0 _ _ 0 [some (.ref 0)] [] w (87, 0, 0)
  simp (decide := true) only [BmC_shortest, BSC, h, EV, EW, CT, ev_o, ev_is, ev_gd, vp_in, List.length_cons, List.length_nil, Nat.reduceLT, Nat.reduceAdd, Nat.reduceEqDiff, Nat.reduceLeDiff, Nat.reduceMul, Int32.reduceLT, Int32.reduceLE, Int32.reduceAdd, Int32.reduceSub, Int32.reduceToNatClampNeg, reduceIte, true_and, and_true, true_or, or_true, or_false, false_or, or_self, and_false, false_and, not_true_eq_false, not_false_eq_true, false_imp_iff, true_imp_iff, implies_true]

set_option maxHeartbeats 8000000 in
set_option maxRecDepth 100000 in
theorem p_C_moves {w : cx_W} (h : FC w) (a : Int32) : cx_MC mC_moves 12 0 0 [.ref 0, .int a] w 87 (fun r w2 => r = some (.int (-6)) ∧ (∀ k, 45 ≤ k → w2 k = w k)) := by
  unfold FC at h
  refine cx_met 300 mC_moves_ok rfl ?_
  show cx_vc 300 none mC_moves 12 0 0 _ _ 0 [some (.ref 0), some (.int a)] [] w (87, 0, 0)
  simp (decide := true) only [BmC_moves, BSC, h, EV, EW, CT, ev_o, ev_is, ev_gd, vp_in, List.length_cons, List.length_nil, Nat.reduceLT, Nat.reduceAdd, Nat.reduceEqDiff, Nat.reduceLeDiff, Nat.reduceMul, Int32.reduceLT, Int32.reduceLE, Int32.reduceAdd, Int32.reduceSub, Int32.reduceToNatClampNeg, reduceIte, true_and, and_true, true_or, or_true, or_false, false_or, or_self, and_false, false_and, not_true_eq_false, not_false_eq_true, false_imp_iff, true_imp_iff, implies_true]

set_option maxHeartbeats 8000000 in
set_option maxRecDepth 100000 in
theorem p_C_latches {w : cx_W} (h : FC w) (a b : Int32) : cx_MC mC_latches 12 0 0 [.ref 0, .int a, .int b] w 87 (fun r w2 => r = some (.long (Int32.toInt64 (-6))) ∧ (∀ k, 45 ≤ k → w2 k = w k)) := by
  unfold FC at h
  refine cx_met 300 mC_latches_ok rfl ?_
  show cx_vc 300 none mC_latches 12 0 0 _ _ 0 [some (.ref 0), some (.int a), some (.int b), none] [] w (87, 0, 0)
  simp (decide := true) only [BmC_latches, BSC, h, EV, EW, CT, ev_o, ev_is, ev_gd, vp_in, List.length_cons, List.length_nil, Nat.reduceLT, Nat.reduceAdd, Nat.reduceEqDiff, Nat.reduceLeDiff, Nat.reduceMul, Int32.reduceLT, Int32.reduceLE, Int32.reduceAdd, Int32.reduceSub, Int32.reduceToNatClampNeg, reduceIte, true_and, and_true, true_or, or_true, or_false, false_or, or_self, and_false, false_and, not_true_eq_false, not_false_eq_true, false_imp_iff, true_imp_iff, implies_true]

set_option maxHeartbeats 8000000 in
set_option maxRecDepth 100000 in
theorem p_C_clockRetimed {w : cx_W} (h : FC w) (a : Int32) : cx_MC mC_clockRetimed 12 0 0 [.ref 0, .int a] w 87 (fun r w2 => r = some (.int (-6)) ∧ (∀ k, 45 ≤ k → w2 k = w k)) := by
  unfold FC at h
  refine cx_met 300 mC_clockRetimed_ok rfl ?_
  show cx_vc 300 none mC_clockRetimed 12 0 0 _ _ 0 [some (.ref 0), some (.int a)] [] w (87, 0, 0)
  simp (decide := true) only [BmC_clockRetimed, BSC, h, EV, EW, CT, ev_o, ev_is, ev_gd, vp_in, List.length_cons, List.length_nil, Nat.reduceLT, Nat.reduceAdd, Nat.reduceEqDiff, Nat.reduceLeDiff, Nat.reduceMul, Int32.reduceLT, Int32.reduceLE, Int32.reduceAdd, Int32.reduceSub, Int32.reduceToNatClampNeg, reduceIte, true_and, and_true, true_or, or_true, or_false, false_or, or_self, and_false, false_and, not_true_eq_false, not_false_eq_true, false_imp_iff, true_imp_iff, implies_true]

set_option maxHeartbeats 8000000 in
set_option maxRecDepth 100000 in
theorem p_C_reset {w : cx_W} (h : FC w) : cx_MC mC_reset 12 0 0 [.ref 0] w 87 (fun r w2 => r = none ∧ (∀ k, 45 ≤ k → w2 k = w k)) := by
  unfold FC at h
  refine cx_met 300 mC_reset_ok rfl ?_
  show cx_vc 300 none mC_reset 12 0 0 _ _ 0 [some (.ref 0)] [] w (87, 0, 0)
  simp (decide := true) only [BmC_reset, BSC, h, EV, EW, CT, ev_o, ev_is, ev_gd, vp_in, List.length_cons, List.length_nil, Nat.reduceLT, Nat.reduceAdd, Nat.reduceEqDiff, Nat.reduceLeDiff, Nat.reduceMul, Int32.reduceLT, Int32.reduceLE, Int32.reduceAdd, Int32.reduceSub, Int32.reduceToNatClampNeg, reduceIte, true_and, and_true, true_or, or_true, or_false, false_or, or_self, and_false, false_and, not_true_eq_false, not_false_eq_true, false_imp_iff, true_imp_iff, implies_true]
  intro k hk
  simp (disch := omega) only [if_neg]
set_option maxHeartbeats 8000000 in
set_option maxRecDepth 100000 in
theorem p_Ci_hasUndrivenLatch {w : cx_W} (h : FC w) : cx_MC mCi_hasUndrivenLatch 10 0 0 [.ref 6] w 87 (fun r w2 => r = some (.int 0) ∧ w2 = w) := by
  unfold FC at h
  refine cx_met 60 mCi_hasUndrivenLatch_ok rfl ?_
  show cx_vc 60 none mCi_hasUndrivenLatch 10 0 0 _ _ 0 [some (.ref 6), none] [] w (87, 0, 0)
  simp (decide := true) only [BmCi_hasUndrivenLatch, BSC, h, EV, EW, CT, ev_o, ev_is, ev_gd, vp_in, List.length_cons, List.length_nil, Nat.reduceLT, Nat.reduceAdd, Nat.reduceEqDiff, Nat.reduceLeDiff, Nat.reduceMul, Int32.reduceLT, Int32.reduceLE, Int32.reduceAdd, Int32.reduceSub, Int32.reduceToNatClampNeg, reduceIte, true_and, and_true, true_or, or_true, or_false, false_or, or_self, and_false, false_and, not_true_eq_false, not_false_eq_true, false_imp_iff, true_imp_iff, implies_true]
  refine cx_run 60 mCi_hasUndrivenLatch_mo ?_
  simp (decide := true) only [BmCi_hasUndrivenLatch, BSC, h, EV, EW, CT, ev_o, ev_is, ev_gd, vp_in, List.length_cons, List.length_nil, Nat.reduceLT, Nat.reduceAdd, Nat.reduceEqDiff, Nat.reduceLeDiff, Nat.reduceMul, Int32.reduceLT, Int32.reduceLE, Int32.reduceAdd, Int32.reduceSub, Int32.reduceToNatClampNeg, reduceIte, true_and, and_true, true_or, or_true, or_false, false_or, or_self, and_false, false_and, not_true_eq_false, not_false_eq_true, false_imp_iff, true_imp_iff, implies_true]
set_option maxHeartbeats 8000000 in
set_option maxRecDepth 100000 in
theorem p_Ci_hasLatchRing {w : cx_W} (h : FC w) : cx_MC mCi_hasLatchRing 10 0 0 [.ref 6] w 87 (fun r w2 => r = some (.int 0) ∧ w2 = w) := by
  unfold FC at h
  refine cx_met 60 mCi_hasLatchRing_ok rfl ?_
  show cx_vc 60 none mCi_hasLatchRing 10 0 0 _ _ 0 [some (.ref 6), none, none, none] [] w (87, 0, 0)
  simp (decide := true) only [BmCi_hasLatchRing, BSC, h, EV, EW, CT, ev_o, ev_is, ev_gd, vp_in, List.length_cons, List.length_nil, Nat.reduceLT, Nat.reduceAdd, Nat.reduceEqDiff, Nat.reduceLeDiff, Nat.reduceMul, Int32.reduceLT, Int32.reduceLE, Int32.reduceAdd, Int32.reduceSub, Int32.reduceToNatClampNeg, reduceIte, true_and, and_true, true_or, or_true, or_false, false_or, or_self, and_false, false_and, not_true_eq_false, not_false_eq_true, false_imp_iff, true_imp_iff, implies_true]
  refine cx_run 60 mCi_hasLatchRing_mo ?_
  simp (decide := true) only [BmCi_hasLatchRing, BSC, h, EV, EW, CT, ev_o, ev_is, ev_gd, vp_in, List.length_cons, List.length_nil, Nat.reduceLT, Nat.reduceAdd, Nat.reduceEqDiff, Nat.reduceLeDiff, Nat.reduceMul, Int32.reduceLT, Int32.reduceLE, Int32.reduceAdd, Int32.reduceSub, Int32.reduceToNatClampNeg, reduceIte, true_and, and_true, true_or, or_true, or_false, false_or, or_self, and_false, false_and, not_true_eq_false, not_false_eq_true, false_imp_iff, true_imp_iff, implies_true]
set_option maxHeartbeats 8000000 in
set_option maxRecDepth 100000 in
theorem p_Li_hasPattern {w : cx_W} (h : FC w) (p : Int32) : cx_MC mLi_hasPattern 9 0 0 [.ref 13, .int p] w 87 (fun r w2 => r = some (.int 0) ∧ w2 = w) := by
  unfold FC at h
  refine cx_met 60 mLi_hasPattern_ok rfl ?_
  show cx_vc 60 none mLi_hasPattern 9 0 0 _ _ 0 [some (.ref 13), some (.int p), none] [] w (87, 0, 0)
  simp (decide := true) only [BmLi_hasPattern, BSC, h, EV, EW, CT, ev_o, ev_is, ev_gd, vp_in, List.length_cons, List.length_nil, Nat.reduceLT, Nat.reduceAdd, Nat.reduceEqDiff, Nat.reduceLeDiff, Nat.reduceMul, Int32.reduceLT, Int32.reduceLE, Int32.reduceAdd, Int32.reduceSub, Int32.reduceToNatClampNeg, reduceIte, true_and, and_true, true_or, or_true, or_false, false_or, or_self, and_false, false_and, not_true_eq_false, not_false_eq_true, false_imp_iff, true_imp_iff, implies_true]
  refine cx_run 60 mLi_hasPattern_mo ?_
  simp (decide := true) only [BmLi_hasPattern, BSC, h, EV, EW, CT, ev_o, ev_is, ev_gd, vp_in, List.length_cons, List.length_nil, Nat.reduceLT, Nat.reduceAdd, Nat.reduceEqDiff, Nat.reduceLeDiff, Nat.reduceMul, Int32.reduceLT, Int32.reduceLE, Int32.reduceAdd, Int32.reduceSub, Int32.reduceToNatClampNeg, reduceIte, true_and, and_true, true_or, or_true, or_false, false_or, or_self, and_false, false_and, not_true_eq_false, not_false_eq_true, false_imp_iff, true_imp_iff, implies_true]
set_option maxHeartbeats 8000000 in
set_option maxRecDepth 100000 in
theorem p_Li_covers {w : cx_W} (h : FC w) : cx_MC mLi_coversEveryNode 10 0 0 [.ref 13] w 87 (fun r w2 => r = some (.int 0) ∧ w2 = w) := by
  have h0 := h
  unfold FC at h
  refine cx_met 60 mLi_coversEveryNode_ok rfl ?_
  show cx_vc 60 none mLi_coversEveryNode 10 0 0 _ _ 0 [some (.ref 13)] [] w (87, 0, 0)
  simp (decide := true) only [BmLi_coversEveryNode, BSC, h, EV, EW, CT, ev_o, ev_is, ev_gd, vp_in, List.length_cons, List.length_nil, Nat.reduceLT, Nat.reduceAdd, Nat.reduceEqDiff, Nat.reduceLeDiff, Nat.reduceMul, Int32.reduceLT, Int32.reduceLE, Int32.reduceAdd, Int32.reduceSub, Int32.reduceToNatClampNeg, reduceIte, true_and, and_true, true_or, or_true, or_false, false_or, or_self, and_false, false_and, not_true_eq_false, not_false_eq_true, false_imp_iff, true_imp_iff, implies_true]
  refine cx_cs1 9 0 0 (by decide) (p_Li_hasPattern h0 6) fun r w2 h2 => ?_
  obtain ⟨rfl, rfl⟩ := h2
  simp (decide := true) only [BmLi_coversEveryNode, BSC, h, EV, EW, CT, ev_o, ev_is, ev_gd, vp_in, List.length_cons, List.length_nil, Nat.reduceLT, Nat.reduceAdd, Nat.reduceEqDiff, Nat.reduceLeDiff, Nat.reduceMul, Int32.reduceLT, Int32.reduceLE, Int32.reduceAdd, Int32.reduceSub, Int32.reduceToNatClampNeg, reduceIte, true_and, and_true, true_or, or_true, or_false, false_or, or_self, and_false, false_and, not_true_eq_false, not_false_eq_true, false_imp_iff, true_imp_iff, implies_true]
set_option maxHeartbeats 8000000 in
set_option maxRecDepth 100000 in
theorem p_Ci_runCycle {w : cx_W} (h : FC w) (a : Int32) : cx_MC mCi_runCycle 10 0 0 [.ref 6, .int a] w 87 (fun r w2 => r = some (.int 0) ∧ ∀ k, 45 ≤ k → w2 k = w k) := by
  unfold FC at h
  refine cx_met 60 mCi_runCycle_ok rfl ?_
  show cx_vc 60 none mCi_runCycle 10 0 0 _ _ 0 [some (.ref 6), some (.int a), none, none, none] [] w (87, 0, 0)
  simp (decide := true) only [BmCi_runCycle, BSC, h, EV, EW, CT, ev_o, ev_is, ev_gd, vp_in, List.length_cons, List.length_nil, Nat.reduceLT, Nat.reduceAdd, Nat.reduceEqDiff, Nat.reduceLeDiff, Nat.reduceMul, Int32.reduceLT, Int32.reduceLE, Int32.reduceAdd, Int32.reduceSub, Int32.reduceToNatClampNeg, reduceIte, true_and, and_true, true_or, or_true, or_false, false_or, or_self, and_false, false_and, not_true_eq_false, not_false_eq_true, false_imp_iff, true_imp_iff, implies_true]
  refine cx_run 60 mCi_runCycle_mo ?_
  simp (decide := true) only [BmCi_runCycle, BSC, h, EV, EW, CT, ev_o, ev_is, ev_gd, vp_in, List.length_cons, List.length_nil, Nat.reduceLT, Nat.reduceAdd, Nat.reduceEqDiff, Nat.reduceLeDiff, Nat.reduceMul, Int32.reduceLT, Int32.reduceLE, Int32.reduceAdd, Int32.reduceSub, Int32.reduceToNatClampNeg, reduceIte, true_and, and_true, true_or, or_true, or_false, false_or, or_self, and_false, false_and, not_true_eq_false, not_false_eq_true, false_imp_iff, true_imp_iff, implies_true]
  refine cx_run 60 mCi_runCycle_mo ?_
  simp (decide := true) only [BmCi_runCycle, BSC, h, EV, EW, CT, ev_o, ev_is, ev_gd, vp_in, List.length_cons, List.length_nil, Nat.reduceLT, Nat.reduceAdd, Nat.reduceEqDiff, Nat.reduceLeDiff, Nat.reduceMul, Int32.reduceLT, Int32.reduceLE, Int32.reduceAdd, Int32.reduceSub, Int32.reduceToNatClampNeg, reduceIte, true_and, and_true, true_or, or_true, or_false, false_or, or_self, and_false, false_and, not_true_eq_false, not_false_eq_true, false_imp_iff, true_imp_iff, implies_true]
  refine cx_run 60 mCi_runCycle_mo ?_
  simp (decide := true) only [BmCi_runCycle, BSC, h, EV, EW, CT, ev_o, ev_is, ev_gd, vp_in, List.length_cons, List.length_nil, Nat.reduceLT, Nat.reduceAdd, Nat.reduceEqDiff, Nat.reduceLeDiff, Nat.reduceMul, Int32.reduceLT, Int32.reduceLE, Int32.reduceAdd, Int32.reduceSub, Int32.reduceToNatClampNeg, reduceIte, true_and, and_true, true_or, or_true, or_false, false_or, or_self, and_false, false_and, not_true_eq_false, not_false_eq_true, false_imp_iff, true_imp_iff, implies_true]
  intro k hk
  simp (disch := omega) only [if_neg]
set_option maxHeartbeats 8000000 in
set_option maxRecDepth 100000 in
theorem p_C_map {w : cx_W} (h : FC w) : cx_MC mC_map 12 0 0 [.ref 0] w 87 (fun r w2 => r = some (.int (-5)) ∧ (∀ k, 45 ≤ k → w2 k = w k)) := by
  have h0 := h
  unfold FC at h
  refine cx_met 60 mC_map_ok rfl ?_
  show cx_vc 60 none mC_map 12 0 0 _ _ 0 [some (.ref 0)] [] w (87, 0, 0)
  simp (decide := true) only [BmC_map, BSC, h, EV, EW, CT, ev_o, ev_is, ev_gd, vp_in, List.length_cons, List.length_nil, Nat.reduceLT, Nat.reduceAdd, Nat.reduceEqDiff, Nat.reduceLeDiff, Nat.reduceMul, Int32.reduceLT, Int32.reduceLE, Int32.reduceAdd, Int32.reduceSub, Int32.reduceToNatClampNeg, reduceIte, true_and, and_true, true_or, or_true, or_false, false_or, or_self, and_false, false_and, not_true_eq_false, not_false_eq_true, false_imp_iff, true_imp_iff, implies_true]
  refine cx_cs1 10 0 0 (by decide) (p_Ci_hasUndrivenLatch h0) fun r w2 h2 => ?_
  obtain ⟨rfl, rfl⟩ := h2
  simp (decide := true) only [BmC_map, BSC, h, EV, EW, CT, ev_o, ev_is, ev_gd, vp_in, List.length_cons, List.length_nil, Nat.reduceLT, Nat.reduceAdd, Nat.reduceEqDiff, Nat.reduceLeDiff, Nat.reduceMul, Int32.reduceLT, Int32.reduceLE, Int32.reduceAdd, Int32.reduceSub, Int32.reduceToNatClampNeg, reduceIte, true_and, and_true, true_or, or_true, or_false, false_or, or_self, and_false, false_and, not_true_eq_false, not_false_eq_true, false_imp_iff, true_imp_iff, implies_true]
  refine cx_cs1 10 0 0 (by decide) (p_Ci_hasLatchRing h0) fun r w2 h2 => ?_
  obtain ⟨rfl, rfl⟩ := h2
  simp (decide := true) only [BmC_map, BSC, h, EV, EW, CT, ev_o, ev_is, ev_gd, vp_in, List.length_cons, List.length_nil, Nat.reduceLT, Nat.reduceAdd, Nat.reduceEqDiff, Nat.reduceLeDiff, Nat.reduceMul, Int32.reduceLT, Int32.reduceLE, Int32.reduceAdd, Int32.reduceSub, Int32.reduceToNatClampNeg, reduceIte, true_and, and_true, true_or, or_true, or_false, false_or, or_self, and_false, false_and, not_true_eq_false, not_false_eq_true, false_imp_iff, true_imp_iff, implies_true]
  refine cx_cs1 10 0 0 (by decide) (p_Li_covers h0) fun r w2 h2 => ?_
  obtain ⟨rfl, rfl⟩ := h2
  simp (decide := true) only [BmC_map, BSC, h, EV, EW, CT, ev_o, ev_is, ev_gd, vp_in, List.length_cons, List.length_nil, Nat.reduceLT, Nat.reduceAdd, Nat.reduceEqDiff, Nat.reduceLeDiff, Nat.reduceMul, Int32.reduceLT, Int32.reduceLE, Int32.reduceAdd, Int32.reduceSub, Int32.reduceToNatClampNeg, reduceIte, true_and, and_true, true_or, or_true, or_false, false_or, or_self, and_false, false_and, not_true_eq_false, not_false_eq_true, false_imp_iff, true_imp_iff, implies_true]
set_option maxHeartbeats 8000000 in
set_option maxRecDepth 100000 in
theorem p_C_clock {w : cx_W} (h : FC w) (a : Int32) : cx_MC mC_clock 12 0 0 [.ref 0, .int a] w 87 (fun r w2 => r = some (.int 0) ∧ (∀ k, 45 ≤ k → w2 k = w k)) := by
  have h0 := h
  unfold FC at h
  refine cx_met 60 mC_clock_ok rfl ?_
  show cx_vc 60 none mC_clock 12 0 0 _ _ 0 [some (.ref 0), some (.int a)] [] w (87, 0, 0)
  simp (decide := true) only [BmC_clock, BSC, h, EV, EW, CT, ev_o, ev_is, ev_gd, vp_in, List.length_cons, List.length_nil, Nat.reduceLT, Nat.reduceAdd, Nat.reduceEqDiff, Nat.reduceLeDiff, Nat.reduceMul, Int32.reduceLT, Int32.reduceLE, Int32.reduceAdd, Int32.reduceSub, Int32.reduceToNatClampNeg, reduceIte, true_and, and_true, true_or, or_true, or_false, false_or, or_self, and_false, false_and, not_true_eq_false, not_false_eq_true, false_imp_iff, true_imp_iff, implies_true]
  refine cx_cs1 10 0 0 (by decide) (p_Ci_hasUndrivenLatch h0) fun r w2 h2 => ?_
  obtain ⟨rfl, rfl⟩ := h2
  simp (decide := true) only [BmC_clock, BSC, h, EV, EW, CT, ev_o, ev_is, ev_gd, vp_in, List.length_cons, List.length_nil, Nat.reduceLT, Nat.reduceAdd, Nat.reduceEqDiff, Nat.reduceLeDiff, Nat.reduceMul, Int32.reduceLT, Int32.reduceLE, Int32.reduceAdd, Int32.reduceSub, Int32.reduceToNatClampNeg, reduceIte, true_and, and_true, true_or, or_true, or_false, false_or, or_self, and_false, false_and, not_true_eq_false, not_false_eq_true, false_imp_iff, true_imp_iff, implies_true]
  refine cx_cs1 10 0 0 (by decide) (p_Ci_runCycle h0 a) fun r w2 h2 => ?_
  obtain ⟨rfl, h3⟩ := h2
  simp (decide := true) only [BmC_clock, BSC, h, EV, EW, CT, ev_o, ev_is, ev_gd, vp_in, List.length_cons, List.length_nil, Nat.reduceLT, Nat.reduceAdd, Nat.reduceEqDiff, Nat.reduceLeDiff, Nat.reduceMul, Int32.reduceLT, Int32.reduceLE, Int32.reduceAdd, Int32.reduceSub, Int32.reduceToNatClampNeg, reduceIte, true_and, and_true, true_or, or_true, or_false, false_or, or_self, and_false, false_and, not_true_eq_false, not_false_eq_true, false_imp_iff, true_imp_iff, implies_true]
  exact h3
