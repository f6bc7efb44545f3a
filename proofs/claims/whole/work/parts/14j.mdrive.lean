/-! Building: the reference's drive. Own work. -/
set_option maxHeartbeats 8000000 in
theorem c_M_drive_bad {w : cx_W} {nc : Nat} {x1 x2 x3 x4 x5 x6 x7 x8 x9 : Int32} {so : Nat → Int32} (a b : Int32) (hnc : nc ≤ 40) (hb : ¬ (isNet nc a ∧ so a.toNatClampNeg = 1 ∧ isNet nc b)) (h45 : w 45 = oM (nI nc) x1 x2 x3 x4 x5 x6 x7 x8 x9) (h46 : w 46 = ai 40 so) : cx_MC mM_drive 12 0 0 [.ref 45, .int a, .int b] w 87 (fun r w2 => r = some (.int 0) ∧ w2 = w) := by
  refine cx_met 120 mM_drive_ok rfl ?_
  show cx_vc 120 none mM_drive 12 0 0 _ _ 0 [some (.ref 45), some (.int a), some (.int b)] [] w (87, 0, 0)
  by_cases a1 : a < 0
  · simp (decide := true) only [BmM_drive, BmM_isNet, h45, a1, EV, EW, CT, ev_o, ev_is, ev_gd, List.length_cons, List.length_nil, Nat.reduceLT, Nat.reduceAdd, Nat.reduceEqDiff, Nat.reduceLeDiff, Int32.reduceLT, Int32.reduceLE, reduceIte, true_and, and_true, true_or, or_true, not_true_eq_false, not_false_eq_true, false_imp_iff, true_imp_iff, implies_true]
  · by_cases a2 : nI nc ≤ a
    · simp (decide := true) only [BmM_drive, BmM_isNet, h45, a1, a2, EV, EW, CT, ev_o, ev_is, ev_gd, List.length_cons, List.length_nil, Nat.reduceLT, Nat.reduceAdd, Nat.reduceEqDiff, Nat.reduceLeDiff, Int32.reduceLT, Int32.reduceLE, reduceIte, true_and, and_true, true_or, or_true, not_true_eq_false, not_false_eq_true, false_imp_iff, true_imp_iff, implies_true]
    · have v1 : vp_in a 40 := vin a1 a2 hnc (by decide)
      by_cases b1 : b < 0
      · simp (decide := true) only [BmM_drive, BmM_isNet, h45, a1, a2, b1, EV, EW, CT, ev_o, ev_is, ev_gd, List.length_cons, List.length_nil, Nat.reduceLT, Nat.reduceAdd, Nat.reduceEqDiff, Nat.reduceLeDiff, Int32.reduceLT, Int32.reduceLE, reduceIte, true_and, and_true, true_or, or_true, not_true_eq_false, not_false_eq_true, false_imp_iff, true_imp_iff, implies_true]
      · by_cases b2 : nI nc ≤ b
        · simp (decide := true) only [BmM_drive, BmM_isNet, h45, a1, a2, b1, b2, EV, EW, CT, ev_o, ev_is, ev_gd, List.length_cons, List.length_nil, Nat.reduceLT, Nat.reduceAdd, Nat.reduceEqDiff, Nat.reduceLeDiff, Int32.reduceLT, Int32.reduceLE, reduceIte, true_and, and_true, true_or, or_true, not_true_eq_false, not_false_eq_true, false_imp_iff, true_imp_iff, implies_true]
        · have a3 : ¬ so a.toNatClampNeg = 1 := fun q => hb ⟨⟨a1, a2⟩, q, b1, b2⟩
          simp (decide := true) only [BmM_drive, BmM_isNet, h45, h46, a1, a2, a3, b1, b2, v1, EV, EW, CT, ev_o, ev_is, ev_gd, List.length_cons, List.length_nil, Nat.reduceLT, Nat.reduceAdd, Nat.reduceEqDiff, Nat.reduceLeDiff, Int32.reduceLT, Int32.reduceLE, reduceIte, true_and, and_true, true_or, or_true, not_true_eq_false, not_false_eq_true, false_imp_iff, true_imp_iff, implies_true]
set_option maxHeartbeats 8000000 in
theorem c_M_drive {w : cx_W} {nc : Nat} {x1 x2 x3 x4 x5 x6 x7 x8 x9 : Int32} {so fi nw dr : Nat → Int32} (a b : Int32) (hnc : nc ≤ 40) (ha : isNet nc a) (hl : so a.toNatClampNeg = 1) (hb : isNet nc b) (h45 : w 45 = oM (nI nc) x1 x2 x3 x4 x5 x6 x7 x8 x9) (h46 : w 46 = ai 40 so) (h48 : w 48 = ai 40 fi) (h49 : w 49 = ai 40 nw) (h50 : w 50 = ai 40 dr) : cx_MC mM_drive 12 0 0 [.ref 45, .int a, .int b] w 87 (fun r w2 => r = some (.int 1) ∧ w2 45 = oM (nI nc) x1 x2 x3 x4 x5 0 x7 x8 x9 ∧ w2 49 = ai 40 (fun j => if j < nc then fi j else nw j) ∧ w2 50 = ai 40 (upd dr a.toNatClampNeg b) ∧ ∀ k, ¬ k = 45 ∧ ¬ k = 49 ∧ ¬ k = 50 → w2 k = w k) := by
  obtain ⟨a1, a2⟩ := ha
  obtain ⟨b1, b2⟩ := hb
  have v1 : vp_in a 40 := vin a1 a2 hnc (by decide)
  refine cx_met 120 mM_drive_ok rfl ?_
  show cx_vc 120 none mM_drive 12 0 0 _ _ 0 [some (.ref 45), some (.int a), some (.int b)] [] w (87, 0, 0)
  simp (decide := true) only [BmM_drive, BmM_isNet, h45, h46, h50, hl, a1, a2, b1, b2, v1, EV, EW, CT, ev_o, ev_is, ev_gd, List.length_cons, List.length_nil, Nat.reduceLT, Nat.reduceAdd, Nat.reduceEqDiff, Nat.reduceLeDiff, Int32.reduceLT, Int32.reduceLE, reduceIte, true_and, and_true, true_or, or_true, not_true_eq_false, not_false_eq_true, false_imp_iff, true_imp_iff, implies_true]
  refine cx_cs1 1 0 0 (by decide) (c_M_changed (N := nc) (x1 := x1) (x2 := x2) (x3 := x3) (x4 := x4) (x5 := x5) (x6 := x6) (x7 := x7) (x8 := x8) (x9 := x9) (f := fi) (g := nw) hnc (by simp only [cx_up, Nat.reduceEqDiff, reduceIte]; exact h45) (by simp only [cx_up, Nat.reduceEqDiff, reduceIte]; exact h48) (by simp only [cx_up, Nat.reduceEqDiff, reduceIte]; exact h49)) fun r w2 q => ?_
  obtain ⟨rfl, g45, g49, gk⟩ := q
  simp (decide := true) only [BmM_drive, EV, EW, CT, ev_o, ev_is, ev_gd, List.length_cons, List.length_nil, Nat.reduceLT, Nat.reduceAdd, Nat.reduceEqDiff, Nat.reduceLeDiff, Int32.reduceLT, Int32.reduceLE, reduceIte, true_and, and_true, true_or, or_true, not_true_eq_false, not_false_eq_true, false_imp_iff, true_imp_iff, implies_true]
  refine ⟨g45, g49, ?_, fun k hk => ?_⟩
  · rw [gk 50 (by decide) (by decide)]; simp only [cx_up, Nat.reduceEqDiff, reduceIte]
  · rw [gk k hk.1 hk.2.1]
    simp (disch := omega) only [cx_up, if_neg]
