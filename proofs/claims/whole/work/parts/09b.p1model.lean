/-! A first call on new objects: the reference. Printed by gen_p1b.py. -/
theorem FM_of {w w2 : cx_W} (hk : ∀ k, 45 ≤ k → w2 k = w k) (h : FM w) : FM w2 := by
  unfold FM at h ⊢
  simp (disch := omega) only [hk]
  exact h
set_option maxHeartbeats 4000000 in
theorem changed_loop {N : Nat} {w : cx_W} {x1 x2 x3 x4 x5 x6 x7 x8 x9 : Int32} {f g : Nat → Int32} (hN : N ≤ 40) : ∀ (m i : Nat) (w1 : cx_W) (g1 : Nat → Int32), i + m = N → w1 45 = oM (nI N) x1 x2 x3 x4 x5 x6 x7 x8 x9 → w1 48 = ai 40 f → w1 49 = ai 40 g1 → (∀ j, g1 j = if j < i then f j else g j) → (∀ k, ¬ k = 45 → ¬ k = 49 → w1 k = w k) →
    cx_OK none mM_changed 1 0 0 (fun r w2 _ => r = none ∧ w2 45 = oM (nI N) x1 x2 x3 x4 x5 x6 x7 x8 x9 ∧ w2 49 = ai 40 (fun j => if j < N then f j else g j) ∧ ∀ k, ¬ k = 45 → ¬ k = 49 → w2 k = w k) 7 [some (.ref 45), some (.int (nI i))] [] w1 (87, 0, 0) := by
  intro m
  induction m with
  | zero =>
    intro i w1 g1 hi h45 h48 h49 hg hk
    refine cx_run 30 mM_changed_mo ?_
    have hi2 : i = N := by omega
    subst hi2
    simp only [BmM_changed, h45, h48, h49, nI_leI (a := i) (b := i) (by omega) (by omega), Nat.le_refl, not_true_eq_false, false_imp_iff, true_imp_iff, EV, EW, ev_o, ev_is, ev_gd, List.length_cons, List.length_nil, Nat.reduceLT, Nat.reduceAdd, Nat.reduceEqDiff, Nat.reduceLeDiff, reduceIte, true_and, and_true, true_or, or_true]
    exact ⟨by rw [show g1 = (fun j => if j < i then f j else g j) from funext hg], hk⟩
  | succ m ih =>
    intro i w1 g1 hi h45 h48 h49 hg hk
    refine cx_run 30 mM_changed_mo ?_
    have hlt : ¬ N ≤ i := by omega
    simp only [BmM_changed, h45, h48, h49, nI_leI (a := N) (b := i) (by omega) (by omega), hlt, not_false_eq_true, false_imp_iff, true_imp_iff, nI_clamp (n := i) (by omega), nI_1, EV, EW, ev_o, ev_is, ev_gd, List.length_cons, List.length_nil, Nat.reduceLT, Nat.reduceAdd, Nat.reduceEqDiff, Nat.reduceLeDiff, reduceIte, true_and, and_true, true_or, or_true]
    refine ⟨nI_in (by omega) (by omega), nI_in (by omega) (by omega), ih (i + 1) _ (upd g1 i (f i)) (by omega) ?_ ?_ ?_ ?_ ?_⟩
    · simp only [cx_up, Nat.reduceEqDiff, reduceIte]; exact h45
    · simp only [cx_up, Nat.reduceEqDiff, reduceIte]; exact h48
    · simp only [cx_up, reduceIte]
    · intro j
      unfold upd
      by_cases hj : j = i
      · subst hj; simp
      · have h9 : (j < i + 1) ↔ (j < i) := by omega
        simp only [if_neg hj, h9]; exact hg j
    · intro k q1 q2
      simp only [cx_up, if_neg q2]; exact hk k q1 q2
set_option maxHeartbeats 4000000 in
/-- the reference's changed(): the mapping ends, the values are the first ones -/
theorem c_M_changed {N : Nat} {w : cx_W} {x1 x2 x3 x4 x5 x6 x7 x8 x9 : Int32} {f g : Nat → Int32} (hN : N ≤ 40) (h45 : w 45 = oM (nI N) x1 x2 x3 x4 x5 x6 x7 x8 x9) (h48 : w 48 = ai 40 f) (h49 : w 49 = ai 40 g) :
    cx_MC mM_changed 1 0 0 [.ref 45] w 87 (fun r w2 => r = none ∧ w2 45 = oM (nI N) x1 x2 x3 x4 x5 0 x7 x8 x9 ∧ w2 49 = ai 40 (fun j => if j < N then f j else g j) ∧ ∀ k, ¬ k = 45 → ¬ k = 49 → w2 k = w k) := by
  refine cx_met 30 mM_changed_ok rfl ?_
  show cx_vc 30 none mM_changed 1 0 0 _ _ 0 [some (.ref 45), none] [] w (87, 0, 0)
  simp only [BmM_changed, h45, EV, EW, ev_o, ev_is, ev_gd, List.length_cons, List.length_nil, Nat.reduceLT, Nat.reduceAdd, Nat.reduceEqDiff, Nat.reduceLeDiff, reduceIte, true_and, and_true, true_or, or_true]
  refine changed_loop (f := f) (g := g) hN N 0 _ g (by omega) ?_ ?_ ?_ (fun j => by simp) ?_
  · simp only [cx_up, reduceIte]
  · simp only [cx_up, Nat.reduceEqDiff, reduceIte]; exact h48
  · simp only [cx_up, Nat.reduceEqDiff, reduceIte]; exact h49
  · intro k q1 q2
    simp only [cx_up, if_neg q1]
set_option maxHeartbeats 8000000 in
set_option maxRecDepth 100000 in
theorem p_M_nodes {w : cx_W} (h : FM w) : cx_MC mM_nodes 12 0 0 [.ref 45] w 87 (fun r w2 => r = some (.int 0) ∧ True) := by
  unfold FM at h
  refine cx_met 300 mM_nodes_ok rfl ?_
  show cx_vc 300 none mM_nodes 12 0 0 _ _ 0 [some (.ref 45)] [] w (87, 0, 0)
  simp (decide := true) only [BmM_nodes, BSM, h, EV, EW, CT, ev_o, ev_is, ev_gd, vp_in, List.length_cons, List.length_nil, Nat.reduceLT, Nat.reduceAdd, Nat.reduceEqDiff, Nat.reduceLeDiff, Nat.reduceMul, Int32.reduceLT, Int32.reduceLE, Int32.reduceAdd, Int32.reduceSub, Int32.reduceToNatClampNeg, reduceIte, true_and, and_true, true_or, or_true, or_false, false_or, or_self, and_false, false_and, not_true_eq_false, not_false_eq_true, false_imp_iff, true_imp_iff, implies_true]

set_option maxHeartbeats 8000000 in
set_option maxRecDepth 100000 in
theorem p_M_nodeOf {w : cx_W} (h : FM w) (a : Int32) : cx_MC mM_nodeOf 12 0 0 [.ref 45, .int a] w 87 (fun r w2 => r = some (.int (-1)) ∧ True) := by
  unfold FM at h
  refine cx_met 300 mM_nodeOf_ok rfl ?_
  show cx_vc 300 none mM_nodeOf 12 0 0 _ _ 0 [some (.ref 45), some (.int a)] [] w (87, 0, 0)
  simp (decide := true) only [BmM_nodeOf, BSM, h, EV, EW, CT, ev_o, ev_is, ev_gd, vp_in, List.length_cons, List.length_nil, Nat.reduceLT, Nat.reduceAdd, Nat.reduceEqDiff, Nat.reduceLeDiff, Nat.reduceMul, Int32.reduceLT, Int32.reduceLE, Int32.reduceAdd, Int32.reduceSub, Int32.reduceToNatClampNeg, reduceIte, true_and, and_true, true_or, or_true, or_false, false_or, or_self, and_false, false_and, not_true_eq_false, not_false_eq_true, false_imp_iff, true_imp_iff, implies_true]
  exact fun q1 q2 => absurd (Int32.not_lt.mp q1) q2
set_option maxHeartbeats 8000000 in
set_option maxRecDepth 100000 in
theorem p_M_function {w : cx_W} (h : FM w) (a b c t : Int32) : cx_MC mM_function 12 0 0 [.ref 45, .int a, .int b, .int c, .int t] w 87 (fun r w2 => r = some (.int (-1)) ∧ True) := by
  unfold FM at h
  refine cx_met 300 mM_function_ok rfl ?_
  show cx_vc 300 none mM_function 12 0 0 _ _ 0 [some (.ref 45), some (.int a), some (.int b), some (.int c), some (.int t), none, none] [] w (87, 0, 0)
  simp (decide := true) only [BmM_function, BSM, h, EV, EW, CT, ev_o, ev_is, ev_gd, vp_in, List.length_cons, List.length_nil, Nat.reduceLT, Nat.reduceAdd, Nat.reduceEqDiff, Nat.reduceLeDiff, Nat.reduceMul, Int32.reduceLT, Int32.reduceLE, Int32.reduceAdd, Int32.reduceSub, Int32.reduceToNatClampNeg, reduceIte, true_and, and_true, true_or, or_true, or_false, false_or, or_self, and_false, false_and, not_true_eq_false, not_false_eq_true, false_imp_iff, true_imp_iff, implies_true]
  by_cases ha : a < 0
  · simp only [ha, not_true_eq_false, not_false_eq_true, false_imp_iff, true_imp_iff, implies_true, and_self, and_true, true_and]
  · have hb : 0 ≤ a := Int32.not_lt.mp ha
    simp only [ha, hb, not_true_eq_false, not_false_eq_true, false_imp_iff, true_imp_iff, implies_true, and_self, and_true, true_and]
set_option maxHeartbeats 8000000 in
set_option maxRecDepth 100000 in
theorem p_M_drive {w : cx_W} (h : FM w) (a b : Int32) : cx_MC mM_drive 12 0 0 [.ref 45, .int a, .int b] w 87 (fun r w2 => r = some (.int 0) ∧ True) := by
  unfold FM at h
  refine cx_met 300 mM_drive_ok rfl ?_
  show cx_vc 300 none mM_drive 12 0 0 _ _ 0 [some (.ref 45), some (.int a), some (.int b)] [] w (87, 0, 0)
  simp (decide := true) only [BmM_drive, BSM, h, EV, EW, CT, ev_o, ev_is, ev_gd, vp_in, List.length_cons, List.length_nil, Nat.reduceLT, Nat.reduceAdd, Nat.reduceEqDiff, Nat.reduceLeDiff, Nat.reduceMul, Int32.reduceLT, Int32.reduceLE, Int32.reduceAdd, Int32.reduceSub, Int32.reduceToNatClampNeg, reduceIte, true_and, and_true, true_or, or_true, or_false, false_or, or_self, and_false, false_and, not_true_eq_false, not_false_eq_true, false_imp_iff, true_imp_iff, implies_true]
  exact fun q1 q2 => absurd (Int32.not_lt.mp q1) q2
set_option maxHeartbeats 8000000 in
set_option maxRecDepth 100000 in
theorem p_M_output {w : cx_W} (h : FM w) (a : Int32) : cx_MC mM_output 12 0 0 [.ref 45, .int a] w 87 (fun r w2 => r = some (.int (-1)) ∧ True) := by
  unfold FM at h
  refine cx_met 300 mM_output_ok rfl ?_
  show cx_vc 300 none mM_output 12 0 0 _ _ 0 [some (.ref 45), some (.int a)] [] w (87, 0, 0)
  simp (decide := true) only [BmM_output, BSM, h, EV, EW, CT, ev_o, ev_is, ev_gd, vp_in, List.length_cons, List.length_nil, Nat.reduceLT, Nat.reduceAdd, Nat.reduceEqDiff, Nat.reduceLeDiff, Nat.reduceMul, Int32.reduceLT, Int32.reduceLE, Int32.reduceAdd, Int32.reduceSub, Int32.reduceToNatClampNeg, reduceIte, true_and, and_true, true_or, or_true, or_false, false_or, or_self, and_false, false_and, not_true_eq_false, not_false_eq_true, false_imp_iff, true_imp_iff, implies_true]
  exact fun q1 q2 => absurd (Int32.not_lt.mp q1) q2
set_option maxHeartbeats 8000000 in
set_option maxRecDepth 100000 in
theorem p_M_part {w : cx_W} (h : FM w) (a b : Int32) : cx_MC mM_part 12 0 0 [.ref 45, .int a, .int b] w 87 (fun r w2 => r = some (.int (-1)) ∧ True) := by
  unfold FM at h
  refine cx_met 300 mM_part_ok rfl ?_
  show cx_vc 300 none mM_part 12 0 0 _ _ 0 [some (.ref 45), some (.int a), some (.int b)] [] w (87, 0, 0)
  simp (decide := true) only [BmM_part, BSM, h, EV, EW, CT, ev_o, ev_is, ev_gd, vp_in, List.length_cons, List.length_nil, Nat.reduceLT, Nat.reduceAdd, Nat.reduceEqDiff, Nat.reduceLeDiff, Nat.reduceMul, Int32.reduceLT, Int32.reduceLE, Int32.reduceAdd, Int32.reduceSub, Int32.reduceToNatClampNeg, reduceIte, true_and, and_true, true_or, or_true, or_false, false_or, or_self, and_false, false_and, not_true_eq_false, not_false_eq_true, false_imp_iff, true_imp_iff, implies_true]
  exact fun q1 q2 => absurd (Int32.not_lt.mp q1) q2
set_option maxHeartbeats 8000000 in
set_option maxRecDepth 100000 in
theorem p_M_area {w : cx_W} (h : FM w) : cx_MC mM_area 12 0 0 [.ref 45] w 87 (fun r w2 => r = some (.int (-6)) ∧ True) := by
  unfold FM at h
  refine cx_met 300 mM_area_ok rfl ?_
  show cx_vc 300 none mM_area 12 0 0 _ _ 0 [some (.ref 45), none, none] [] w (87, 0, 0)
  simp (decide := true) only [BmM_area, BSM, h, EV, EW, CT, ev_o, ev_is, ev_gd, vp_in, List.length_cons, List.length_nil, Nat.reduceLT, Nat.reduceAdd, Nat.reduceEqDiff, Nat.reduceLeDiff, Nat.reduceMul, Int32.reduceLT, Int32.reduceLE, Int32.reduceAdd, Int32.reduceSub, Int32.reduceToNatClampNeg, reduceIte, true_and, and_true, true_or, or_true, or_false, false_or, or_self, and_false, false_and, not_true_eq_false, not_false_eq_true, false_imp_iff, true_imp_iff, implies_true]

set_option maxHeartbeats 8000000 in
set_option maxRecDepth 100000 in
theorem p_M_cellAt {w : cx_W} (h : FM w) (a : Int32) : cx_MC mM_cellAt 12 0 0 [.ref 45, .int a] w 87 (fun r w2 => r = some (.int (-6)) ∧ True) := by
  unfold FM at h
  refine cx_met 300 mM_cellAt_ok rfl ?_
  show cx_vc 300 none mM_cellAt 12 0 0 _ _ 0 [some (.ref 45), some (.int a)] [] w (87, 0, 0)
  simp (decide := true) only [BmM_cellAt, BSM, h, EV, EW, CT, ev_o, ev_is, ev_gd, vp_in, List.length_cons, List.length_nil, Nat.reduceLT, Nat.reduceAdd, Nat.reduceEqDiff, Nat.reduceLeDiff, Nat.reduceMul, Int32.reduceLT, Int32.reduceLE, Int32.reduceAdd, Int32.reduceSub, Int32.reduceToNatClampNeg, reduceIte, true_and, and_true, true_or, or_true, or_false, false_or, or_self, and_false, false_and, not_true_eq_false, not_false_eq_true, false_imp_iff, true_imp_iff, implies_true]

set_option maxHeartbeats 8000000 in
set_option maxRecDepth 100000 in
theorem p_M_period {w : cx_W} (h : FM w) : cx_MC mM_period 12 0 0 [.ref 45] w 87 (fun r w2 => r = some (.int (-6)) ∧ True) := by
  unfold FM at h
  refine cx_met 300 mM_period_ok rfl ?_
  show cx_vc 300 none mM_period 12 0 0 _ _ 0 [some (.ref 45)] [] w (87, 0, 0)
  simp (decide := true) only [BmM_period, BSM, h, EV, EW, CT, ev_o, ev_is, ev_gd, vp_in, List.length_cons, List.length_nil, Nat.reduceLT, Nat.reduceAdd, Nat.reduceEqDiff, Nat.reduceLeDiff, Nat.reduceMul, Int32.reduceLT, Int32.reduceLE, Int32.reduceAdd, Int32.reduceSub, Int32.reduceToNatClampNeg, reduceIte, true_and, and_true, true_or, or_true, or_false, false_or, or_self, and_false, false_and, not_true_eq_false, not_false_eq_true, false_imp_iff, true_imp_iff, implies_true]

set_option maxHeartbeats 8000000 in
set_option maxRecDepth 100000 in
theorem p_M_shortest {w : cx_W} (h : FM w) : cx_MC mM_shortest 12 0 0 [.ref 45] w 87 (fun r w2 => r = some (.int (-6)) ∧ True) := by
  unfold FM at h
  refine cx_met 300 mM_shortest_ok rfl ?_
  show cx_vc 300 none mM_shortest 12 0 0 _ _ 0 [some (.ref 45)] [] w (87, 0, 0)
  simp (decide := true) only [BmM_shortest, BSM, h, EV, EW, CT, ev_o, ev_is, ev_gd, vp_in, List.length_cons, List.length_nil, Nat.reduceLT, Nat.reduceAdd, Nat.reduceEqDiff, Nat.reduceLeDiff, Nat.reduceMul, Int32.reduceLT, Int32.reduceLE, Int32.reduceAdd, Int32.reduceSub, Int32.reduceToNatClampNeg, reduceIte, true_and, and_true, true_or, or_true, or_false, false_or, or_self, and_false, false_and, not_true_eq_false, not_false_eq_true, false_imp_iff, true_imp_iff, implies_true]

set_option maxHeartbeats 8000000 in
set_option maxRecDepth 100000 in
theorem p_M_moves {w : cx_W} (h : FM w) (a : Int32) : cx_MC mM_moves 12 0 0 [.ref 45, .int a] w 87 (fun r w2 => r = some (.int (-6)) ∧ True) := by
  unfold FM at h
  refine cx_met 300 mM_moves_ok rfl ?_
  show cx_vc 300 none mM_moves 12 0 0 _ _ 0 [some (.ref 45), some (.int a)] [] w (87, 0, 0)
  simp (decide := true) only [BmM_moves, BSM, h, EV, EW, CT, ev_o, ev_is, ev_gd, vp_in, List.length_cons, List.length_nil, Nat.reduceLT, Nat.reduceAdd, Nat.reduceEqDiff, Nat.reduceLeDiff, Nat.reduceMul, Int32.reduceLT, Int32.reduceLE, Int32.reduceAdd, Int32.reduceSub, Int32.reduceToNatClampNeg, reduceIte, true_and, and_true, true_or, or_true, or_false, false_or, or_self, and_false, false_and, not_true_eq_false, not_false_eq_true, false_imp_iff, true_imp_iff, implies_true]

set_option maxHeartbeats 8000000 in
set_option maxRecDepth 100000 in
theorem p_M_latches {w : cx_W} (h : FM w) (a b : Int32) : cx_MC mM_latches 12 0 0 [.ref 45, .int a, .int b] w 87 (fun r w2 => r = some (.long (Int32.toInt64 (-6))) ∧ True) := by
  unfold FM at h
  refine cx_met 300 mM_latches_ok rfl ?_
  show cx_vc 300 none mM_latches 12 0 0 _ _ 0 [some (.ref 45), some (.int a), some (.int b), none, none] [] w (87, 0, 0)
  simp (decide := true) only [BmM_latches, BSM, h, EV, EW, CT, ev_o, ev_is, ev_gd, vp_in, List.length_cons, List.length_nil, Nat.reduceLT, Nat.reduceAdd, Nat.reduceEqDiff, Nat.reduceLeDiff, Nat.reduceMul, Int32.reduceLT, Int32.reduceLE, Int32.reduceAdd, Int32.reduceSub, Int32.reduceToNatClampNeg, reduceIte, true_and, and_true, true_or, or_true, or_false, false_or, or_self, and_false, false_and, not_true_eq_false, not_false_eq_true, false_imp_iff, true_imp_iff, implies_true]

set_option maxHeartbeats 8000000 in
set_option maxRecDepth 100000 in
theorem p_M_clockRetimed {w : cx_W} (h : FM w) (a : Int32) : cx_MC mM_clockRetimed 12 0 0 [.ref 45, .int a] w 87 (fun r w2 => r = some (.int (-6)) ∧ True) := by
  unfold FM at h
  refine cx_met 300 mM_clockRetimed_ok rfl ?_
  show cx_vc 300 none mM_clockRetimed 12 0 0 _ _ 0 [some (.ref 45), some (.int a), none, none, none] [] w (87, 0, 0)
  simp (decide := true) only [BmM_clockRetimed, BSM, h, EV, EW, CT, ev_o, ev_is, ev_gd, vp_in, List.length_cons, List.length_nil, Nat.reduceLT, Nat.reduceAdd, Nat.reduceEqDiff, Nat.reduceLeDiff, Nat.reduceMul, Int32.reduceLT, Int32.reduceLE, Int32.reduceAdd, Int32.reduceSub, Int32.reduceToNatClampNeg, reduceIte, true_and, and_true, true_or, or_true, or_false, false_or, or_self, and_false, false_and, not_true_eq_false, not_false_eq_true, false_imp_iff, true_imp_iff, implies_true]

set_option maxHeartbeats 8000000 in
set_option maxRecDepth 100000 in
/-- the reference's newNet -/
theorem c_M_newNet {N : Nat} {w : cx_W} {x1 x2 x3 x4 x5 x6 x7 x8 x9 wh nd ini : Int32} {so na fi no dr : Nat → Int32} (hN : N < 40) (h45 : w 45 = oM (nI N) x1 x2 x3 x4 x5 x6 x7 x8 x9) (h46 : w 46 = ai 40 so) (h47 : w 47 = ai 40 na) (h48 : w 48 = ai 40 fi) (h49 : w 49 = ai 40 no) (h50 : w 50 = ai 40 dr) :
    cx_MC mM_newNet 2 0 0 [.ref 45, .int wh, .int nd, .int ini] w 87 (fun r w2 => r = some (.int (nI N)) ∧ w2 45 = oM (nI (N + 1)) x1 x2 x3 x4 x5 0 x7 x8 x9 ∧ w2 46 = ai 40 (upd so N wh) ∧ w2 47 = ai 40 (upd na N nd) ∧ w2 48 = ai 40 (upd fi N ini) ∧ w2 49 = ai 40 (fun j => if j < N + 1 then upd fi N ini j else no j) ∧ w2 50 = ai 40 (upd dr N (-1)) ∧ ∀ k, 50 < k ∨ k < 45 → w2 k = w k) := by
  refine cx_met 80 mM_newNet_ok rfl ?_
  show cx_vc 80 none mM_newNet 2 0 0 _ _ 0 [some (.ref 45), some (.int wh), some (.int nd), some (.int ini)] [] w (87, 0, 0)
  simp only [BmM_newNet, h45, h46, h47, h48, h50, nI_clamp (n := N) (by omega), nI_1, EV, EW, ev_o, ev_is, ev_gd, List.length_cons, List.length_nil, Nat.reduceLT, Nat.reduceAdd, Nat.reduceEqDiff, Nat.reduceLeDiff, reduceIte, true_and, and_true, true_or, or_true]
  have hv : vp_in (nI N) 40 := nI_in hN (by omega)
  refine ⟨hv, hv, hv, hv, ?_⟩
  refine cx_cs1 1 0 0 (by decide) (c_M_changed (N := N + 1) (x1 := x1) (x2 := x2) (x3 := x3) (x4 := x4) (x5 := x5) (x6 := x6) (x7 := x7) (x8 := x8) (x9 := x9) (f := upd fi N ini) (g := no) (by omega) (by simp only [cx_up, Nat.reduceEqDiff, reduceIte]) (by simp only [cx_up, Nat.reduceEqDiff, reduceIte]) (by simp only [cx_up, Nat.reduceEqDiff, reduceIte]; exact h49)) fun r w2 h2 => ?_
  obtain ⟨rfl, g45, g49, gk⟩ := h2
  simp only [BmM_newNet, g45, nI_pred, EV, EW, ev_o, ev_is, ev_gd, List.length_cons, List.length_nil, Nat.reduceLT, Nat.reduceAdd, Nat.reduceEqDiff, Nat.reduceLeDiff, reduceIte, true_and, and_true, true_or, or_true]
  refine ⟨?_, ?_, ?_, g49, ?_, fun k hk => ?_⟩
  · rw [gk 46 (by decide) (by decide)]; simp only [cx_up, Nat.reduceEqDiff, reduceIte]
  · rw [gk 47 (by decide) (by decide)]; simp only [cx_up, Nat.reduceEqDiff, reduceIte]
  · rw [gk 48 (by decide) (by decide)]; simp only [cx_up, Nat.reduceEqDiff, reduceIte]
  · rw [gk 50 (by decide) (by decide)]; simp only [cx_up, Nat.reduceEqDiff, reduceIte]
  · rw [gk k (by omega) (by omega)]
    simp (disch := omega) only [cx_up, if_neg]
set_option maxHeartbeats 8000000 in
set_option maxRecDepth 100000 in
theorem p_M_input {w : cx_W} (h : FM w) : cx_MC mM_input 12 0 0 [.ref 45] w 87 (fun r w2 => r = some (.int 0) ∧ True) := by
  unfold FM at h
  refine cx_met 300 mM_input_ok rfl ?_
  show cx_vc 300 none mM_input 12 0 0 _ _ 0 [some (.ref 45), none] [] w (87, 0, 0)
  simp (decide := true) only [BmM_input, BSM, h, EV, EW, CT, ev_o, ev_is, ev_gd, vp_in, List.length_cons, List.length_nil, Nat.reduceLT, Nat.reduceAdd, Nat.reduceEqDiff, Nat.reduceLeDiff, Nat.reduceMul, Int32.reduceLT, Int32.reduceLE, Int32.reduceAdd, Int32.reduceSub, Int32.reduceToNatClampNeg, reduceIte, true_and, and_true, true_or, or_true, or_false, false_or, or_self, and_false, false_and, not_true_eq_false, not_false_eq_true, false_imp_iff, true_imp_iff, implies_true]
  refine cx_cs1 2 0 0 (by decide) (c_M_newNet (N := 0) (x1 := 1) (x2 := 0) (x3 := 1) (x4 := 0) (x5 := 0) (x6 := 0) (x7 := 0) (x8 := 0) (x9 := 0) (so := zi) (na := zi) (fi := zi) (no := zi) (dr := zi) (by decide) (by simp only [cx_up, Nat.reduceEqDiff, reduceIte]; rw [nI_0]) (by simp only [cx_up, Nat.reduceEqDiff, reduceIte]; exact h.2.1) (by simp only [cx_up, Nat.reduceEqDiff, reduceIte]; exact h.2.2.1) (by simp only [cx_up, Nat.reduceEqDiff, reduceIte]; exact h.2.2.2.1) (by simp only [cx_up, Nat.reduceEqDiff, reduceIte]; exact h.2.2.2.2.1) (by simp only [cx_up, Nat.reduceEqDiff, reduceIte]; exact h.2.2.2.2.2.1)) fun r w2 h2 => ?_
  obtain ⟨rfl, -⟩ := h2
  simp (decide := true) only [BmM_input, nI_0, EV, EW, CT, ev_o, ev_is, ev_gd, vp_in, List.length_cons, List.length_nil, Nat.reduceLT, Nat.reduceAdd, Nat.reduceEqDiff, Nat.reduceLeDiff, Nat.reduceMul, Int32.reduceLT, Int32.reduceLE, Int32.reduceAdd, Int32.reduceSub, Int32.reduceToNatClampNeg, reduceIte, true_and, and_true, true_or, or_true, or_false, false_or, or_self, and_false, false_and, not_true_eq_false, not_false_eq_true, false_imp_iff, true_imp_iff, implies_true]
set_option maxHeartbeats 8000000 in
set_option maxRecDepth 100000 in
theorem p_M_latch {w : cx_W} (h : FM w) (a : Int32) : cx_MC mM_latch 12 0 0 [.ref 45, .int a] w 87 (fun r w2 => r = some (.int (if a = 0 ∨ a = 1 then 0 else -1)) ∧ True) := by
  unfold FM at h
  refine cx_met 300 mM_latch_ok rfl ?_
  show cx_vc 300 none mM_latch 12 0 0 _ _ 0 [some (.ref 45), some (.int a), none] [] w (87, 0, 0)
  simp (decide := true) only [BmM_latch, BSM, h, EV, EW, CT, ev_o, ev_is, ev_gd, vp_in, List.length_cons, List.length_nil, Nat.reduceLT, Nat.reduceAdd, Nat.reduceEqDiff, Nat.reduceLeDiff, Nat.reduceMul, Int32.reduceLT, Int32.reduceLE, Int32.reduceAdd, Int32.reduceSub, Int32.reduceToNatClampNeg, reduceIte, true_and, and_true, true_or, or_true, or_false, false_or, or_self, and_false, false_and, not_true_eq_false, not_false_eq_true, false_imp_iff, true_imp_iff, implies_true]
  refine ⟨fun q => ?_, fun q => ⟨fun q2 => ?_, fun q2 => ?_⟩⟩
  · rw [if_neg (by rintro (rfl | rfl) <;> exact absurd q (by decide))]
  · have ha : a = 0 ∨ a = 1 := by
      have h1 : 0 ≤ a.toInt := by have := Int32.le_iff_toInt_le.mp (Int32.not_lt.mp q); simpa using this
      have h2 : a.toInt ≤ 1 := by have := Int32.le_iff_toInt_le.mp q2; simpa using this
      rcases (show a.toInt = 0 ∨ a.toInt = 1 by omega) with h3 | h3
      · exact Or.inl (Int32.toInt_inj.mp (by rw [h3]; rfl))
      · exact Or.inr (Int32.toInt_inj.mp (by rw [h3]; rfl))
    refine cx_cs1 2 0 0 (by decide) (c_M_newNet (N := 0) (x1 := 0) (x2 := 1) (x3 := 1) (x4 := 0) (x5 := 0) (x6 := 0) (x7 := 0) (x8 := 0) (x9 := 0) (so := zi) (na := zi) (fi := zi) (no := zi) (dr := zi) (by decide) (by simp only [cx_up, Nat.reduceEqDiff, reduceIte]; rw [nI_0]) (by simp only [cx_up, Nat.reduceEqDiff, reduceIte]; exact h.2.1) (by simp only [cx_up, Nat.reduceEqDiff, reduceIte]; exact h.2.2.1) (by simp only [cx_up, Nat.reduceEqDiff, reduceIte]; exact h.2.2.2.1) (by simp only [cx_up, Nat.reduceEqDiff, reduceIte]; exact h.2.2.2.2.1) (by simp only [cx_up, Nat.reduceEqDiff, reduceIte]; exact h.2.2.2.2.2.1)) fun r w2 h2 => ?_
    obtain ⟨rfl, -⟩ := h2
    simp (decide := true) only [BmM_latch, nI_0, if_pos ha, EV, EW, CT, ev_o, ev_is, ev_gd, vp_in, List.length_cons, List.length_nil, Nat.reduceLT, Nat.reduceAdd, Nat.reduceEqDiff, Nat.reduceLeDiff, Nat.reduceMul, Int32.reduceLT, Int32.reduceLE, Int32.reduceAdd, Int32.reduceSub, Int32.reduceToNatClampNeg, reduceIte, true_and, and_true, true_or, or_true, or_false, false_or, or_self, and_false, false_and, not_true_eq_false, not_false_eq_true, false_imp_iff, true_imp_iff, implies_true]
  · rw [if_neg (by rintro (rfl | rfl) <;> exact absurd q2 (by decide))]
