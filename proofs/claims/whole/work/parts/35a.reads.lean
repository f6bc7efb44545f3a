/-! Reads of a circuit that is not mapped, both sides. Printed by gen_35.py. -/
set_option maxHeartbeats 4000000 in
theorem u_C_area {w : cx_W} (h0 : w 0 = oC 0) : cx_MC mC_area 12 0 0 [.ref 0] w 87 (fun r w2 => r = some (.int (-6)) ∧ w2 = w) := by
  refine cx_met 60 mC_area_ok rfl ?_
  show cx_vc 60 none mC_area 12 0 0 _ _ 0 [some (.ref 0)] [] w (87, 0, 0)
  simp (decide := true) only [BmC_area, h0, EV, EW, CT, ev_o, ev_is, ev_gd, List.length_cons, List.length_nil, Nat.reduceLT, Nat.reduceAdd, Nat.reduceEqDiff, Nat.reduceLeDiff, Int32.reduceLT, Int32.reduceLE, reduceIte, true_and, and_true, true_or, or_true, not_true_eq_false, not_false_eq_true, false_imp_iff, true_imp_iff, implies_true]
set_option maxHeartbeats 4000000 in
theorem u_C_cellAt {w : cx_W} (h0 : w 0 = oC 0) (a : Int32) : cx_MC mC_cellAt 12 0 0 [.ref 0, .int a] w 87 (fun r w2 => r = some (.int (-6)) ∧ w2 = w) := by
  refine cx_met 60 mC_cellAt_ok rfl ?_
  show cx_vc 60 none mC_cellAt 12 0 0 _ _ 0 [some (.ref 0), some (.int a)] [] w (87, 0, 0)
  simp (decide := true) only [BmC_cellAt, h0, EV, EW, CT, ev_o, ev_is, ev_gd, List.length_cons, List.length_nil, Nat.reduceLT, Nat.reduceAdd, Nat.reduceEqDiff, Nat.reduceLeDiff, Int32.reduceLT, Int32.reduceLE, reduceIte, true_and, and_true, true_or, or_true, not_true_eq_false, not_false_eq_true, false_imp_iff, true_imp_iff, implies_true]
set_option maxHeartbeats 4000000 in
theorem u_C_period {w : cx_W} (h0 : w 0 = oC 0) : cx_MC mC_period 12 0 0 [.ref 0] w 87 (fun r w2 => r = some (.int (-6)) ∧ w2 = w) := by
  refine cx_met 60 mC_period_ok rfl ?_
  show cx_vc 60 none mC_period 12 0 0 _ _ 0 [some (.ref 0)] [] w (87, 0, 0)
  simp (decide := true) only [BmC_period, h0, EV, EW, CT, ev_o, ev_is, ev_gd, List.length_cons, List.length_nil, Nat.reduceLT, Nat.reduceAdd, Nat.reduceEqDiff, Nat.reduceLeDiff, Int32.reduceLT, Int32.reduceLE, reduceIte, true_and, and_true, true_or, or_true, not_true_eq_false, not_false_eq_true, false_imp_iff, true_imp_iff, implies_true]
set_option maxHeartbeats 4000000 in
theorem u_C_shortest {w : cx_W} (h0 : w 0 = oC 0) : cx_MC mC_shortest 12 0 0 [.ref 0] w 87 (fun r w2 => r = some (.int (-6)) ∧ w2 = w) := by
  refine cx_met 60 mC_shortest_ok rfl ?_
  show cx_vc 60 none mC_shortest 12 0 0 _ _ 0 [some (.ref 0)] [] w (87, 0, 0)
  simp (decide := true) only [BmC_shortest, h0, EV, EW, CT, ev_o, ev_is, ev_gd, List.length_cons, List.length_nil, Nat.reduceLT, Nat.reduceAdd, Nat.reduceEqDiff, Nat.reduceLeDiff, Int32.reduceLT, Int32.reduceLE, reduceIte, true_and, and_true, true_or, or_true, not_true_eq_false, not_false_eq_true, false_imp_iff, true_imp_iff, implies_true]
set_option maxHeartbeats 4000000 in
theorem u_C_moves {w : cx_W} (h0 : w 0 = oC 0) (a : Int32) : cx_MC mC_moves 12 0 0 [.ref 0, .int a] w 87 (fun r w2 => r = some (.int (-6)) ∧ w2 = w) := by
  refine cx_met 60 mC_moves_ok rfl ?_
  show cx_vc 60 none mC_moves 12 0 0 _ _ 0 [some (.ref 0), some (.int a)] [] w (87, 0, 0)
  simp (decide := true) only [BmC_moves, h0, EV, EW, CT, ev_o, ev_is, ev_gd, List.length_cons, List.length_nil, Nat.reduceLT, Nat.reduceAdd, Nat.reduceEqDiff, Nat.reduceLeDiff, Int32.reduceLT, Int32.reduceLE, reduceIte, true_and, and_true, true_or, or_true, not_true_eq_false, not_false_eq_true, false_imp_iff, true_imp_iff, implies_true]
set_option maxHeartbeats 4000000 in
theorem u_C_latches {w : cx_W} (h0 : w 0 = oC 0) (a b : Int32) : cx_MC mC_latches 12 0 0 [.ref 0, .int a, .int b] w 87 (fun r w2 => r = some (.long (-6)) ∧ w2 = w) := by
  refine cx_met 60 mC_latches_ok rfl ?_
  show cx_vc 60 none mC_latches 12 0 0 _ _ 0 [some (.ref 0), some (.int a), some (.int b), none] [] w (87, 0, 0)
  simp (decide := true) only [BmC_latches, h0, EV, EW, CT, ev_o, ev_is, ev_gd, List.length_cons, List.length_nil, Nat.reduceLT, Nat.reduceAdd, Nat.reduceEqDiff, Nat.reduceLeDiff, Int32.reduceLT, Int32.reduceLE, reduceIte, true_and, and_true, true_or, or_true, not_true_eq_false, not_false_eq_true, false_imp_iff, true_imp_iff, implies_true]
set_option maxHeartbeats 4000000 in
theorem u_C_clockRetimed {w : cx_W} (h0 : w 0 = oC 0) (a : Int32) : cx_MC mC_clockRetimed 12 0 0 [.ref 0, .int a] w 87 (fun r w2 => r = some (.int (-6)) ∧ w2 = w) := by
  refine cx_met 60 mC_clockRetimed_ok rfl ?_
  show cx_vc 60 none mC_clockRetimed 12 0 0 _ _ 0 [some (.ref 0), some (.int a)] [] w (87, 0, 0)
  simp (decide := true) only [BmC_clockRetimed, h0, EV, EW, CT, ev_o, ev_is, ev_gd, List.length_cons, List.length_nil, Nat.reduceLT, Nat.reduceAdd, Nat.reduceEqDiff, Nat.reduceLeDiff, Int32.reduceLT, Int32.reduceLE, reduceIte, true_and, and_true, true_or, or_true, not_true_eq_false, not_false_eq_true, false_imp_iff, true_imp_iff, implies_true]
set_option maxHeartbeats 4000000 in
theorem u_M_area {w : cx_W} {x0 x1 x2 x3 x4 x5 x7 x8 x9 : Int32} (h45 : w 45 = oM x0 x1 x2 x3 x4 x5 0 x7 x8 x9) : cx_MC mM_area 12 0 0 [.ref 45] w 87 (fun r w2 => r = some (.int (-6)) ∧ w2 = w) := by
  refine cx_met 60 mM_area_ok rfl ?_
  show cx_vc 60 none mM_area 12 0 0 _ _ 0 [some (.ref 45), none, none] [] w (87, 0, 0)
  simp (decide := true) only [BmM_area, h45, EV, EW, CT, ev_o, ev_is, ev_gd, List.length_cons, List.length_nil, Nat.reduceLT, Nat.reduceAdd, Nat.reduceEqDiff, Nat.reduceLeDiff, Int32.reduceLT, Int32.reduceLE, reduceIte, true_and, and_true, true_or, or_true, not_true_eq_false, not_false_eq_true, false_imp_iff, true_imp_iff, implies_true]
set_option maxHeartbeats 4000000 in
theorem u_M_cellAt {w : cx_W} {x0 x1 x2 x3 x4 x5 x7 x8 x9 : Int32} (h45 : w 45 = oM x0 x1 x2 x3 x4 x5 0 x7 x8 x9) (a : Int32) : cx_MC mM_cellAt 12 0 0 [.ref 45, .int a] w 87 (fun r w2 => r = some (.int (-6)) ∧ w2 = w) := by
  refine cx_met 60 mM_cellAt_ok rfl ?_
  show cx_vc 60 none mM_cellAt 12 0 0 _ _ 0 [some (.ref 45), some (.int a)] [] w (87, 0, 0)
  simp (decide := true) only [BmM_cellAt, h45, EV, EW, CT, ev_o, ev_is, ev_gd, List.length_cons, List.length_nil, Nat.reduceLT, Nat.reduceAdd, Nat.reduceEqDiff, Nat.reduceLeDiff, Int32.reduceLT, Int32.reduceLE, reduceIte, true_and, and_true, true_or, or_true, not_true_eq_false, not_false_eq_true, false_imp_iff, true_imp_iff, implies_true]
set_option maxHeartbeats 4000000 in
theorem u_M_period {w : cx_W} {x0 x1 x2 x3 x4 x5 x7 x8 x9 : Int32} (h45 : w 45 = oM x0 x1 x2 x3 x4 x5 0 x7 x8 x9) : cx_MC mM_period 12 0 0 [.ref 45] w 87 (fun r w2 => r = some (.int (-6)) ∧ w2 = w) := by
  refine cx_met 60 mM_period_ok rfl ?_
  show cx_vc 60 none mM_period 12 0 0 _ _ 0 [some (.ref 45)] [] w (87, 0, 0)
  simp (decide := true) only [BmM_period, h45, EV, EW, CT, ev_o, ev_is, ev_gd, List.length_cons, List.length_nil, Nat.reduceLT, Nat.reduceAdd, Nat.reduceEqDiff, Nat.reduceLeDiff, Int32.reduceLT, Int32.reduceLE, reduceIte, true_and, and_true, true_or, or_true, not_true_eq_false, not_false_eq_true, false_imp_iff, true_imp_iff, implies_true]
set_option maxHeartbeats 4000000 in
theorem u_M_shortest {w : cx_W} {x0 x1 x2 x3 x4 x5 x7 x8 x9 : Int32} (h45 : w 45 = oM x0 x1 x2 x3 x4 x5 0 x7 x8 x9) : cx_MC mM_shortest 12 0 0 [.ref 45] w 87 (fun r w2 => r = some (.int (-6)) ∧ w2 = w) := by
  refine cx_met 60 mM_shortest_ok rfl ?_
  show cx_vc 60 none mM_shortest 12 0 0 _ _ 0 [some (.ref 45)] [] w (87, 0, 0)
  simp (decide := true) only [BmM_shortest, h45, EV, EW, CT, ev_o, ev_is, ev_gd, List.length_cons, List.length_nil, Nat.reduceLT, Nat.reduceAdd, Nat.reduceEqDiff, Nat.reduceLeDiff, Int32.reduceLT, Int32.reduceLE, reduceIte, true_and, and_true, true_or, or_true, not_true_eq_false, not_false_eq_true, false_imp_iff, true_imp_iff, implies_true]
set_option maxHeartbeats 4000000 in
theorem u_M_moves {w : cx_W} {x0 x1 x2 x3 x4 x5 x7 x8 x9 : Int32} (h45 : w 45 = oM x0 x1 x2 x3 x4 x5 0 x7 x8 x9) (a : Int32) : cx_MC mM_moves 12 0 0 [.ref 45, .int a] w 87 (fun r w2 => r = some (.int (-6)) ∧ w2 = w) := by
  refine cx_met 60 mM_moves_ok rfl ?_
  show cx_vc 60 none mM_moves 12 0 0 _ _ 0 [some (.ref 45), some (.int a)] [] w (87, 0, 0)
  simp (decide := true) only [BmM_moves, h45, EV, EW, CT, ev_o, ev_is, ev_gd, List.length_cons, List.length_nil, Nat.reduceLT, Nat.reduceAdd, Nat.reduceEqDiff, Nat.reduceLeDiff, Int32.reduceLT, Int32.reduceLE, reduceIte, true_and, and_true, true_or, or_true, not_true_eq_false, not_false_eq_true, false_imp_iff, true_imp_iff, implies_true]
set_option maxHeartbeats 4000000 in
theorem u_M_latches {w : cx_W} {x0 x1 x2 x3 x4 x5 x7 x8 x9 : Int32} (h45 : w 45 = oM x0 x1 x2 x3 x4 x5 0 x7 x8 x9) (a b : Int32) : cx_MC mM_latches 12 0 0 [.ref 45, .int a, .int b] w 87 (fun r w2 => r = some (.long (-6)) ∧ w2 = w) := by
  refine cx_met 60 mM_latches_ok rfl ?_
  show cx_vc 60 none mM_latches 12 0 0 _ _ 0 [some (.ref 45), some (.int a), some (.int b), none, none] [] w (87, 0, 0)
  simp (decide := true) only [BmM_latches, h45, EV, EW, CT, ev_o, ev_is, ev_gd, List.length_cons, List.length_nil, Nat.reduceLT, Nat.reduceAdd, Nat.reduceEqDiff, Nat.reduceLeDiff, Int32.reduceLT, Int32.reduceLE, reduceIte, true_and, and_true, true_or, or_true, not_true_eq_false, not_false_eq_true, false_imp_iff, true_imp_iff, implies_true]
set_option maxHeartbeats 4000000 in
theorem u_M_clockRetimed {w : cx_W} {x0 x1 x2 x3 x4 x5 x7 x8 x9 : Int32} (h45 : w 45 = oM x0 x1 x2 x3 x4 x5 0 x7 x8 x9) (a : Int32) : cx_MC mM_clockRetimed 12 0 0 [.ref 45, .int a] w 87 (fun r w2 => r = some (.int (-6)) ∧ w2 = w) := by
  refine cx_met 60 mM_clockRetimed_ok rfl ?_
  show cx_vc 60 none mM_clockRetimed 12 0 0 _ _ 0 [some (.ref 45), some (.int a), none, none, none] [] w (87, 0, 0)
  simp (decide := true) only [BmM_clockRetimed, h45, EV, EW, CT, ev_o, ev_is, ev_gd, List.length_cons, List.length_nil, Nat.reduceLT, Nat.reduceAdd, Nat.reduceEqDiff, Nat.reduceLeDiff, Int32.reduceLT, Int32.reduceLE, reduceIte, true_and, and_true, true_or, or_true, not_true_eq_false, not_false_eq_true, false_imp_iff, true_imp_iff, implies_true]
set_option maxHeartbeats 4000000 in
theorem c_C_period {w : cx_W} {a b : Int32} (h0 : w 0 = oC 1) (h36 : w 36 = oRe a b) : cx_MC mC_period 12 0 0 [.ref 0] w 87 (fun r w2 => r = some (.int a) ∧ w2 = w) := by
  refine cx_met 60 mC_period_ok rfl ?_
  show cx_vc 60 none mC_period 12 0 0 _ _ 0 [some (.ref 0)] [] w (87, 0, 0)
  simp (decide := true) only [BmC_period, BSC, h0, h36, EV, EW, CT, ev_o, ev_is, ev_gd, List.length_cons, List.length_nil, Nat.reduceLT, Nat.reduceAdd, Nat.reduceEqDiff, Nat.reduceLeDiff, Int32.reduceLT, Int32.reduceLE, reduceIte, true_and, and_true, true_or, or_true, not_true_eq_false, not_false_eq_true, false_imp_iff, true_imp_iff, implies_true]
set_option maxHeartbeats 4000000 in
theorem c_C_shortest {w : cx_W} {a b : Int32} (h0 : w 0 = oC 1) (h36 : w 36 = oRe a b) : cx_MC mC_shortest 12 0 0 [.ref 0] w 87 (fun r w2 => r = some (.int b) ∧ w2 = w) := by
  refine cx_met 60 mC_shortest_ok rfl ?_
  show cx_vc 60 none mC_shortest 12 0 0 _ _ 0 [some (.ref 0)] [] w (87, 0, 0)
  simp (decide := true) only [BmC_shortest, BSC, h0, h36, EV, EW, CT, ev_o, ev_is, ev_gd, List.length_cons, List.length_nil, Nat.reduceLT, Nat.reduceAdd, Nat.reduceEqDiff, Nat.reduceLeDiff, Int32.reduceLT, Int32.reduceLE, reduceIte, true_and, and_true, true_or, or_true, not_true_eq_false, not_false_eq_true, false_imp_iff, true_imp_iff, implies_true]
set_option maxHeartbeats 4000000 in
theorem c_M_period {w : cx_W} {x0 x1 x2 x3 x4 x5 x7 x8 x9 : Int32} (h45 : w 45 = oM x0 x1 x2 x3 x4 x5 1 x7 x8 x9) : cx_MC mM_period 12 0 0 [.ref 45] w 87 (fun r w2 => r = some (.int x8) ∧ w2 = w) := by
  refine cx_met 60 mM_period_ok rfl ?_
  show cx_vc 60 none mM_period 12 0 0 _ _ 0 [some (.ref 45)] [] w (87, 0, 0)
  simp (decide := true) only [BmM_period, h45, EV, EW, CT, ev_o, ev_is, ev_gd, List.length_cons, List.length_nil, Nat.reduceLT, Nat.reduceAdd, Nat.reduceEqDiff, Nat.reduceLeDiff, Int32.reduceLT, Int32.reduceLE, reduceIte, true_and, and_true, true_or, or_true, not_true_eq_false, not_false_eq_true, false_imp_iff, true_imp_iff, implies_true]
set_option maxHeartbeats 4000000 in
theorem c_M_shortest {w : cx_W} {x0 x1 x2 x3 x4 x5 x7 x8 x9 : Int32} (h45 : w 45 = oM x0 x1 x2 x3 x4 x5 1 x7 x8 x9) : cx_MC mM_shortest 12 0 0 [.ref 45] w 87 (fun r w2 => r = some (.int x9) ∧ w2 = w) := by
  refine cx_met 60 mM_shortest_ok rfl ?_
  show cx_vc 60 none mM_shortest 12 0 0 _ _ 0 [some (.ref 45)] [] w (87, 0, 0)
  simp (decide := true) only [BmM_shortest, h45, EV, EW, CT, ev_o, ev_is, ev_gd, List.length_cons, List.length_nil, Nat.reduceLT, Nat.reduceAdd, Nat.reduceEqDiff, Nat.reduceLeDiff, Int32.reduceLT, Int32.reduceLE, reduceIte, true_and, and_true, true_or, or_true, not_true_eq_false, not_false_eq_true, false_imp_iff, true_imp_iff, implies_true]
/-- a node that is a gate -/
def isG (n : Nat) (gt : Nat → Prop) (a : Int32) : Prop := ∃ g : Nat, g < n ∧ a = nI g ∧ gt g
theorem isG_no {n : Nat} {gt : Nat → Prop} {a : Int32} (hn : n ≤ 48) (h : ¬ isG n gt a) : (a < 0) = True ∨ ((a < 0) = False ∧ (nI n ≤ a) = True) ∨ ∃ g : Nat, g < n ∧ a = nI g ∧ ¬ gt g := by
  by_cases e : isNet n a
  · have hl := isNet_lt e (by omega)
    exact .inr (.inr ⟨_, hl.1, hl.2, fun z => h ⟨_, hl.1, hl.2, z⟩⟩)
  · exact (isNet_dec e).imp id .inl
set_option maxHeartbeats 8000000 in
theorem c_C_cellAt_no {w : cx_W} {n : Nat} {gt : Nat → Prop} {gm : Nat → Int32} {x : Int32} (a : Int32) (hn : n ≤ 48) (h0 : w 0 = oC 1) (h1 : w 1 = oGr (nI n)) (h20 : w 20 = oCo x) (h28 : w 28 = az 48 gm) (hB : BR 48 gm gt) (hg : ¬ isG n gt a) : cx_MC mC_cellAt 12 0 0 [.ref 0, .int a] w 87 (fun r w2 => r = some (.int (-1)) ∧ w2 = w) := by
  refine cx_met 60 mC_cellAt_ok rfl ?_
  show cx_vc 60 none mC_cellAt 12 0 0 _ _ 0 [some (.ref 0), some (.int a)] [] w (87, 0, 0)
  rcases isG_no hn hg with e | ⟨e, e2⟩ | ⟨g, gl, rfl, ng⟩
  · simp (decide := true) only [BmC_cellAt, BSC, h0, h1, h20, e, EV, EW, CT, ev_o, ev_is, ev_gd, List.length_cons, List.length_nil, Nat.reduceLT, Nat.reduceAdd, Nat.reduceEqDiff, Nat.reduceLeDiff, Int32.reduceLT, Int32.reduceLE, reduceIte, true_and, and_true, true_or, or_true, not_true_eq_false, not_false_eq_true, false_imp_iff, true_imp_iff, implies_true]
  · simp (decide := true) only [BmC_cellAt, BSC, h0, h1, h20, e, e2, EV, EW, CT, ev_o, ev_is, ev_gd, List.length_cons, List.length_nil, Nat.reduceLT, Nat.reduceAdd, Nat.reduceEqDiff, Nat.reduceLeDiff, Int32.reduceLT, Int32.reduceLE, reduceIte, true_and, and_true, true_or, or_true, not_true_eq_false, not_false_eq_true, false_imp_iff, true_imp_iff, implies_true]
  · have L0 : (nI g < 0) = False := eq_false (nI_pos (by omega))
    have L1 := leF (a := n) (b := g) gl (by omega)
    have v1 : vp_in (nI g) 48 := nI_in (by omega) (by decide)
    have B1 : gm g = 0 := (hB g (by omega)).2 ng
    simp (decide := true) only [BmC_cellAt, BSC, h0, h1, h20, h28, L0, L1, v1, B1, nI_clamp (n := g) (by omega), EV, EW, CT, ev_o, ev_is, ev_gd, List.length_cons, List.length_nil, Nat.reduceLT, Nat.reduceAdd, Nat.reduceEqDiff, Nat.reduceLeDiff, Int32.reduceLT, Int32.reduceLE, reduceIte, true_and, and_true, true_or, or_true, not_true_eq_false, not_false_eq_true, false_imp_iff, true_imp_iff, implies_true]
set_option maxHeartbeats 8000000 in
theorem c_C_cellAt {w : cx_W} {n g : Nat} {gt : Nat → Prop} {gm ch : Nat → Int32} {x : Int32} (hn : n ≤ 48) (h0 : w 0 = oC 1) (h1 : w 1 = oGr (nI n)) (h20 : w 20 = oCo x) (h28 : w 28 = az 48 gm) (hB : BR 48 gm gt) (hr : w 24 = ai 48 ch) (gl : g < n) (hg : gt g) : cx_MC mC_cellAt 12 0 0 [.ref 0, .int (nI g)] w 87 (fun r w2 => r = some (.int (ch g)) ∧ w2 = w) := by
  have L0 : (nI g < 0) = False := eq_false (nI_pos (by omega))
  have L1 := leF (a := n) (b := g) gl (by omega)
  have v1 : vp_in (nI g) 48 := nI_in (by omega) (by decide)
  have B1 : gm g = 1 := (hB g (by omega)).1 hg
  refine cx_met 60 mC_cellAt_ok rfl ?_
  show cx_vc 60 none mC_cellAt 12 0 0 _ _ 0 [some (.ref 0), some (.int (nI g))] [] w (87, 0, 0)
  simp (decide := true) only [BmC_cellAt, BSC, h0, h1, h20, h28, hr, L0, L1, v1, B1, nI_clamp (n := g) (by omega), EV, EW, CT, ev_o, ev_is, ev_gd, List.length_cons, List.length_nil, Nat.reduceLT, Nat.reduceAdd, Nat.reduceEqDiff, Nat.reduceLeDiff, Int32.reduceLT, Int32.reduceLE, reduceIte, true_and, and_true, true_or, or_true, not_true_eq_false, not_false_eq_true, false_imp_iff, true_imp_iff, implies_true]
set_option maxHeartbeats 8000000 in
theorem c_M_cellAt_no {w : cx_W} {n : Nat} {gt : Nat → Prop} {gr : Nat → Int32} {x0 x1 x2 x4 x5 x7 x8 x9 : Int32} (a : Int32) (hn : n ≤ 48) (h45 : w 45 = oM x0 x1 x2 (nI n) x4 x5 1 x7 x8 x9) (h70 : w 70 = az 48 gr) (hB : BR 48 gr gt) (hg : ¬ isG n gt a) : cx_MC mM_cellAt 12 0 0 [.ref 45, .int a] w 87 (fun r w2 => r = some (.int (-1)) ∧ w2 = w) := by
  refine cx_met 60 mM_cellAt_ok rfl ?_
  show cx_vc 60 none mM_cellAt 12 0 0 _ _ 0 [some (.ref 45), some (.int a)] [] w (87, 0, 0)
  rcases isG_no hn hg with e | ⟨e, e2⟩ | ⟨g, gl, rfl, ng⟩
  · simp (decide := true) only [BmM_cellAt, BSM, h45, e, EV, EW, CT, ev_o, ev_is, ev_gd, List.length_cons, List.length_nil, Nat.reduceLT, Nat.reduceAdd, Nat.reduceEqDiff, Nat.reduceLeDiff, Int32.reduceLT, Int32.reduceLE, reduceIte, true_and, and_true, true_or, or_true, not_true_eq_false, not_false_eq_true, false_imp_iff, true_imp_iff, implies_true]
  · simp (decide := true) only [BmM_cellAt, BSM, h45, e, e2, EV, EW, CT, ev_o, ev_is, ev_gd, List.length_cons, List.length_nil, Nat.reduceLT, Nat.reduceAdd, Nat.reduceEqDiff, Nat.reduceLeDiff, Int32.reduceLT, Int32.reduceLE, reduceIte, true_and, and_true, true_or, or_true, not_true_eq_false, not_false_eq_true, false_imp_iff, true_imp_iff, implies_true]
  · have L0 : (nI g < 0) = False := eq_false (nI_pos (by omega))
    have L1 := leF (a := n) (b := g) gl (by omega)
    have v1 : vp_in (nI g) 48 := nI_in (by omega) (by decide)
    have B1 : gr g = 0 := (hB g (by omega)).2 ng
    simp (decide := true) only [BmM_cellAt, BSM, h45, h70, L0, L1, v1, B1, nI_clamp (n := g) (by omega), EV, EW, CT, ev_o, ev_is, ev_gd, List.length_cons, List.length_nil, Nat.reduceLT, Nat.reduceAdd, Nat.reduceEqDiff, Nat.reduceLeDiff, Int32.reduceLT, Int32.reduceLE, reduceIte, true_and, and_true, true_or, or_true, not_true_eq_false, not_false_eq_true, false_imp_iff, true_imp_iff, implies_true]
set_option maxHeartbeats 8000000 in
theorem c_M_cellAt {w : cx_W} {n g : Nat} {gt : Nat → Prop} {gr ch : Nat → Int32} {x0 x1 x2 x4 x5 x7 x8 x9 : Int32} (hn : n ≤ 48) (h45 : w 45 = oM x0 x1 x2 (nI n) x4 x5 1 x7 x8 x9) (h70 : w 70 = az 48 gr) (hB : BR 48 gr gt) (hr : w 68 = ai 48 ch) (gl : g < n) (hg : gt g) : cx_MC mM_cellAt 12 0 0 [.ref 45, .int (nI g)] w 87 (fun r w2 => r = some (.int (ch g)) ∧ w2 = w) := by
  have L0 : (nI g < 0) = False := eq_false (nI_pos (by omega))
  have L1 := leF (a := n) (b := g) gl (by omega)
  have v1 : vp_in (nI g) 48 := nI_in (by omega) (by decide)
  have B1 : gr g = 1 := (hB g (by omega)).1 hg
  refine cx_met 60 mM_cellAt_ok rfl ?_
  show cx_vc 60 none mM_cellAt 12 0 0 _ _ 0 [some (.ref 45), some (.int (nI g))] [] w (87, 0, 0)
  simp (decide := true) only [BmM_cellAt, BSM, h45, h70, hr, L0, L1, v1, B1, nI_clamp (n := g) (by omega), EV, EW, CT, ev_o, ev_is, ev_gd, List.length_cons, List.length_nil, Nat.reduceLT, Nat.reduceAdd, Nat.reduceEqDiff, Nat.reduceLeDiff, Int32.reduceLT, Int32.reduceLE, reduceIte, true_and, and_true, true_or, or_true, not_true_eq_false, not_false_eq_true, false_imp_iff, true_imp_iff, implies_true]
set_option maxHeartbeats 8000000 in
theorem c_C_moves_no {w : cx_W} {n : Nat} {gt : Nat → Prop} {gm : Nat → Int32} {x : Int32} (a : Int32) (hn : n ≤ 48) (h0 : w 0 = oC 1) (h1 : w 1 = oGr (nI n)) (h20 : w 20 = oCo x) (h28 : w 28 = az 48 gm) (hB : BR 48 gm gt) (hg : ¬ isG n gt a) : cx_MC mC_moves 12 0 0 [.ref 0, .int a] w 87 (fun r w2 => r = some (.int (-1)) ∧ w2 = w) := by
  refine cx_met 60 mC_moves_ok rfl ?_
  show cx_vc 60 none mC_moves 12 0 0 _ _ 0 [some (.ref 0), some (.int a)] [] w (87, 0, 0)
  rcases isG_no hn hg with e | ⟨e, e2⟩ | ⟨g, gl, rfl, ng⟩
  · simp (decide := true) only [BmC_moves, BSC, h0, h1, h20, e, EV, EW, CT, ev_o, ev_is, ev_gd, List.length_cons, List.length_nil, Nat.reduceLT, Nat.reduceAdd, Nat.reduceEqDiff, Nat.reduceLeDiff, Int32.reduceLT, Int32.reduceLE, reduceIte, true_and, and_true, true_or, or_true, not_true_eq_false, not_false_eq_true, false_imp_iff, true_imp_iff, implies_true]
  · simp (decide := true) only [BmC_moves, BSC, h0, h1, h20, e, e2, EV, EW, CT, ev_o, ev_is, ev_gd, List.length_cons, List.length_nil, Nat.reduceLT, Nat.reduceAdd, Nat.reduceEqDiff, Nat.reduceLeDiff, Int32.reduceLT, Int32.reduceLE, reduceIte, true_and, and_true, true_or, or_true, not_true_eq_false, not_false_eq_true, false_imp_iff, true_imp_iff, implies_true]
  · have L0 : (nI g < 0) = False := eq_false (nI_pos (by omega))
    have L1 := leF (a := n) (b := g) gl (by omega)
    have v1 : vp_in (nI g) 48 := nI_in (by omega) (by decide)
    have B1 : gm g = 0 := (hB g (by omega)).2 ng
    simp (decide := true) only [BmC_moves, BSC, h0, h1, h20, h28, L0, L1, v1, B1, nI_clamp (n := g) (by omega), EV, EW, CT, ev_o, ev_is, ev_gd, List.length_cons, List.length_nil, Nat.reduceLT, Nat.reduceAdd, Nat.reduceEqDiff, Nat.reduceLeDiff, Int32.reduceLT, Int32.reduceLE, reduceIte, true_and, and_true, true_or, or_true, not_true_eq_false, not_false_eq_true, false_imp_iff, true_imp_iff, implies_true]
set_option maxHeartbeats 8000000 in
theorem c_C_moves {w : cx_W} {n g : Nat} {gt : Nat → Prop} {gm mr : Nat → Int32} {x : Int32} {y0 y1 : Int32} (hn : n ≤ 48) (h0 : w 0 = oC 1) (h1 : w 1 = oGr (nI n)) (h20 : w 20 = oCo x) (h36 : w 36 = oRe y0 y1) (h28 : w 28 = az 48 gm) (hB : BR 48 gm gt) (hr : w 37 = ai 48 mr) (gl : g < n) (hg : gt g) : cx_MC mC_moves 12 0 0 [.ref 0, .int (nI g)] w 87 (fun r w2 => r = some (.int (mr g)) ∧ w2 = w) := by
  have L0 : (nI g < 0) = False := eq_false (nI_pos (by omega))
  have L1 := leF (a := n) (b := g) gl (by omega)
  have v1 : vp_in (nI g) 48 := nI_in (by omega) (by decide)
  have B1 : gm g = 1 := (hB g (by omega)).1 hg
  refine cx_met 60 mC_moves_ok rfl ?_
  show cx_vc 60 none mC_moves 12 0 0 _ _ 0 [some (.ref 0), some (.int (nI g))] [] w (87, 0, 0)
  simp (decide := true) only [BmC_moves, BSC, h0, h1, h20, h36, h28, hr, L0, L1, v1, B1, nI_clamp (n := g) (by omega), EV, EW, CT, ev_o, ev_is, ev_gd, List.length_cons, List.length_nil, Nat.reduceLT, Nat.reduceAdd, Nat.reduceEqDiff, Nat.reduceLeDiff, Int32.reduceLT, Int32.reduceLE, reduceIte, true_and, and_true, true_or, or_true, not_true_eq_false, not_false_eq_true, false_imp_iff, true_imp_iff, implies_true]
set_option maxHeartbeats 8000000 in
theorem c_M_moves_no {w : cx_W} {n : Nat} {gt : Nat → Prop} {gr : Nat → Int32} {x0 x1 x2 x4 x5 x7 x8 x9 : Int32} (a : Int32) (hn : n ≤ 48) (h45 : w 45 = oM x0 x1 x2 (nI n) x4 x5 1 x7 x8 x9) (h70 : w 70 = az 48 gr) (hB : BR 48 gr gt) (hg : ¬ isG n gt a) : cx_MC mM_moves 12 0 0 [.ref 45, .int a] w 87 (fun r w2 => r = some (.int (-1)) ∧ w2 = w) := by
  refine cx_met 60 mM_moves_ok rfl ?_
  show cx_vc 60 none mM_moves 12 0 0 _ _ 0 [some (.ref 45), some (.int a)] [] w (87, 0, 0)
  rcases isG_no hn hg with e | ⟨e, e2⟩ | ⟨g, gl, rfl, ng⟩
  · simp (decide := true) only [BmM_moves, BSM, h45, e, EV, EW, CT, ev_o, ev_is, ev_gd, List.length_cons, List.length_nil, Nat.reduceLT, Nat.reduceAdd, Nat.reduceEqDiff, Nat.reduceLeDiff, Int32.reduceLT, Int32.reduceLE, reduceIte, true_and, and_true, true_or, or_true, not_true_eq_false, not_false_eq_true, false_imp_iff, true_imp_iff, implies_true]
  · simp (decide := true) only [BmM_moves, BSM, h45, e, e2, EV, EW, CT, ev_o, ev_is, ev_gd, List.length_cons, List.length_nil, Nat.reduceLT, Nat.reduceAdd, Nat.reduceEqDiff, Nat.reduceLeDiff, Int32.reduceLT, Int32.reduceLE, reduceIte, true_and, and_true, true_or, or_true, not_true_eq_false, not_false_eq_true, false_imp_iff, true_imp_iff, implies_true]
  · have L0 : (nI g < 0) = False := eq_false (nI_pos (by omega))
    have L1 := leF (a := n) (b := g) gl (by omega)
    have v1 : vp_in (nI g) 48 := nI_in (by omega) (by decide)
    have B1 : gr g = 0 := (hB g (by omega)).2 ng
    simp (decide := true) only [BmM_moves, BSM, h45, h70, L0, L1, v1, B1, nI_clamp (n := g) (by omega), EV, EW, CT, ev_o, ev_is, ev_gd, List.length_cons, List.length_nil, Nat.reduceLT, Nat.reduceAdd, Nat.reduceEqDiff, Nat.reduceLeDiff, Int32.reduceLT, Int32.reduceLE, reduceIte, true_and, and_true, true_or, or_true, not_true_eq_false, not_false_eq_true, false_imp_iff, true_imp_iff, implies_true]
set_option maxHeartbeats 8000000 in
theorem c_M_moves {w : cx_W} {n g : Nat} {gt : Nat → Prop} {gr mr : Nat → Int32} {x0 x1 x2 x4 x5 x7 x8 x9 : Int32} (hn : n ≤ 48) (h45 : w 45 = oM x0 x1 x2 (nI n) x4 x5 1 x7 x8 x9) (h70 : w 70 = az 48 gr) (hB : BR 48 gr gt) (hr : w 81 = ai 48 mr) (gl : g < n) (hg : gt g) : cx_MC mM_moves 12 0 0 [.ref 45, .int (nI g)] w 87 (fun r w2 => r = some (.int (mr g)) ∧ w2 = w) := by
  have L0 : (nI g < 0) = False := eq_false (nI_pos (by omega))
  have L1 := leF (a := n) (b := g) gl (by omega)
  have v1 : vp_in (nI g) 48 := nI_in (by omega) (by decide)
  have B1 : gr g = 1 := (hB g (by omega)).1 hg
  refine cx_met 60 mM_moves_ok rfl ?_
  show cx_vc 60 none mM_moves 12 0 0 _ _ 0 [some (.ref 45), some (.int (nI g))] [] w (87, 0, 0)
  simp (decide := true) only [BmM_moves, BSM, h45, h70, hr, L0, L1, v1, B1, nI_clamp (n := g) (by omega), EV, EW, CT, ev_o, ev_is, ev_gd, List.length_cons, List.length_nil, Nat.reduceLT, Nat.reduceAdd, Nat.reduceEqDiff, Nat.reduceLeDiff, Int32.reduceLT, Int32.reduceLE, reduceIte, true_and, and_true, true_or, or_true, not_true_eq_false, not_false_eq_true, false_imp_iff, true_imp_iff, implies_true]
