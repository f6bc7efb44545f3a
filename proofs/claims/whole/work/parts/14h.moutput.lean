/-! Building: the reference's output, and drive of both sides. Own work. -/
set_option maxHeartbeats 8000000 in
theorem c_M_output_bad {w : cx_W} {nc : Nat} {x1 x2 x3 x4 x5 x6 x7 x8 x9 : Int32} (a : Int32) (ha : ¬ isNet nc a) (h45 : w 45 = oM (nI nc) x1 x2 x3 x4 x5 x6 x7 x8 x9) : cx_MC mM_output 12 0 0 [.ref 45, .int a] w 87 (fun r w2 => r = some (.int (-1)) ∧ w2 = w) := by
  refine cx_met 100 mM_output_ok rfl ?_
  show cx_vc 100 none mM_output 12 0 0 _ _ 0 [some (.ref 45), some (.int a)] [] w (87, 0, 0)
  by_cases a1 : a < 0
  · simp (decide := true) only [BmM_output, BmM_isNet, h45, a1, EV, EW, CT, ev_o, ev_is, ev_gd, List.length_cons, List.length_nil, Nat.reduceLT, Nat.reduceAdd, Nat.reduceEqDiff, Nat.reduceLeDiff, Int32.reduceLT, Int32.reduceLE, reduceIte, true_and, and_true, true_or, or_true, not_true_eq_false, not_false_eq_true, false_imp_iff, true_imp_iff, implies_true]
  · have a2 : nI nc ≤ a := Decidable.byContradiction fun q => ha ⟨a1, q⟩
    simp (decide := true) only [BmM_output, BmM_isNet, h45, a1, a2, EV, EW, CT, ev_o, ev_is, ev_gd, List.length_cons, List.length_nil, Nat.reduceLT, Nat.reduceAdd, Nat.reduceEqDiff, Nat.reduceLeDiff, Int32.reduceLT, Int32.reduceLE, reduceIte, true_and, and_true, true_or, or_true, not_true_eq_false, not_false_eq_true, false_imp_iff, true_imp_iff, implies_true]
set_option maxHeartbeats 8000000 in
theorem c_M_output_full {w : cx_W} {nc : Nat} {x1 x2 x3 x5 x6 x7 x8 x9 : Int32} (a : Int32) (ha : isNet nc a) (h45 : w 45 = oM (nI nc) x1 x2 x3 4 x5 x6 x7 x8 x9) : cx_MC mM_output 12 0 0 [.ref 45, .int a] w 87 (fun r w2 => r = some (.int (-2)) ∧ w2 = w) := by
  obtain ⟨a1, a2⟩ := ha
  refine cx_met 100 mM_output_ok rfl ?_
  show cx_vc 100 none mM_output 12 0 0 _ _ 0 [some (.ref 45), some (.int a)] [] w (87, 0, 0)
  simp (decide := true) only [BmM_output, BmM_isNet, h45, a1, a2, EV, EW, CT, ev_o, ev_is, ev_gd, List.length_cons, List.length_nil, Nat.reduceLT, Nat.reduceAdd, Nat.reduceEqDiff, Nat.reduceLeDiff, Int32.reduceLT, Int32.reduceLE, reduceIte, true_and, and_true, true_or, or_true, not_true_eq_false, not_false_eq_true, false_imp_iff, true_imp_iff, implies_true]
set_option maxHeartbeats 8000000 in
theorem c_M_output {w : cx_W} {nc oc : Nat} {x1 x2 x3 x5 x6 x7 x8 x9 : Int32} {fi nw on : Nat → Int32} (a : Int32) (ha : isNet nc a) (hnc : nc ≤ 40) (hoc : oc < 4) (h45 : w 45 = oM (nI nc) x1 x2 x3 (nI oc) x5 x6 x7 x8 x9) (h48 : w 48 = ai 40 fi) (h49 : w 49 = ai 40 nw) (h60 : w 60 = ai 4 on) : cx_MC mM_output 12 0 0 [.ref 45, .int a] w 87 (fun r w2 => r = some (.int (nI oc)) ∧ w2 45 = oM (nI nc) x1 x2 x3 (nI (oc + 1)) x5 0 x7 x8 x9 ∧ w2 49 = ai 40 (fun j => if j < nc then fi j else nw j) ∧ w2 60 = ai 4 (upd on oc a) ∧ ∀ k, ¬ k = 45 ∧ ¬ k = 49 ∧ ¬ k = 60 → w2 k = w k) := by
  obtain ⟨a1, a2⟩ := ha
  have E1 := (lek (a := oc) (c := 4) (x := 4) rfl (by omega) (by decide)).trans (eq_false (by omega))
  have F1 := (ltk (a := oc) (c := 4) (x := 4) rfl (by omega) (by decide)).trans (eq_true hoc)
  have v1 : vp_in (nI oc) 4 := nI_in hoc (by decide)
  refine cx_met 100 mM_output_ok rfl ?_
  show cx_vc 100 none mM_output 12 0 0 _ _ 0 [some (.ref 45), some (.int a)] [] w (87, 0, 0)
  simp (decide := true) only [BmM_output, BmM_isNet, h45, h60, a1, a2, E1, F1, v1, nI_clamp (n := oc) (by omega), nI_1, EV, EW, CT, ev_o, ev_is, ev_gd, List.length_cons, List.length_nil, Nat.reduceLT, Nat.reduceAdd, Nat.reduceEqDiff, Nat.reduceLeDiff, Int32.reduceLT, Int32.reduceLE, reduceIte, true_and, and_true, true_or, or_true, not_true_eq_false, not_false_eq_true, false_imp_iff, true_imp_iff, implies_true]
  refine cx_cs1 1 0 0 (by decide) (c_M_changed (N := nc) (x1 := x1) (x2 := x2) (x3 := x3) (x4 := nI (oc + 1)) (x5 := x5) (x6 := x6) (x7 := x7) (x8 := x8) (x9 := x9) (f := fi) (g := nw) hnc (by simp only [cx_up, Nat.reduceEqDiff, reduceIte]) (by simp only [cx_up, Nat.reduceEqDiff, reduceIte]; exact h48) (by simp only [cx_up, Nat.reduceEqDiff, reduceIte]; exact h49)) fun r w2 q => ?_
  obtain ⟨rfl, g45, g49, gk⟩ := q
  simp (decide := true) only [BmM_output, g45, nI_pred, EV, EW, CT, ev_o, ev_is, ev_gd, List.length_cons, List.length_nil, Nat.reduceLT, Nat.reduceAdd, Nat.reduceEqDiff, Nat.reduceLeDiff, Int32.reduceLT, Int32.reduceLE, reduceIte, true_and, and_true, true_or, or_true, not_true_eq_false, not_false_eq_true, false_imp_iff, true_imp_iff, implies_true]
  refine ⟨g49, ?_, fun k hk => ?_⟩
  · rw [gk 60 (by decide) (by decide)]; simp only [cx_up, Nat.reduceEqDiff, reduceIte]
  · rw [gk k hk.1 hk.2.1]
    simp (disch := omega) only [cx_up, if_neg]
