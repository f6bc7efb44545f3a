/-! Building: drive of both sides. Own work. -/
set_option maxHeartbeats 8000000 in
theorem c_C_drive_bad {w : cx_W} {m : Int32} {nc ic lc oc : Nat} {ib pb : Int32} {nn nl dv on : Nat → Int32} (a b : Int32) (hnc : nc ≤ 40) (hb : ¬ (isNet nc a ∧ ¬ nl a.toNatClampNeg = -1 ∧ isNet nc b)) (h0 : w 0 = oC m) (hC : CW w nc ic lc oc ib pb nn nl dv on) : cx_MC mC_drive 12 0 0 [.ref 0, .int a, .int b] w 87 (fun r w2 => r = some (.int 0) ∧ w2 = w) := by
  obtain ⟨h6, h7, h8, h9, h10⟩ := hC
  refine cx_met 120 mC_drive_ok rfl ?_
  show cx_vc 120 none mC_drive 12 0 0 _ _ 0 [some (.ref 0), some (.int a), some (.int b)] [] w (87, 0, 0)
  by_cases a1 : a < 0
  · simp (decide := true) only [BmC_drive, BSC, h0, h6, a1, EV, EW, CT, ev_o, ev_is, ev_gd, List.length_cons, List.length_nil, Nat.reduceLT, Nat.reduceAdd, Nat.reduceEqDiff, Nat.reduceLeDiff, Int32.reduceLT, Int32.reduceLE, reduceIte, true_and, and_true, true_or, or_true, not_true_eq_false, not_false_eq_true, false_imp_iff, true_imp_iff, implies_true]
  · by_cases a2 : nI nc ≤ a
    · simp (decide := true) only [BmC_drive, BSC, h0, h6, a1, a2, EV, EW, CT, ev_o, ev_is, ev_gd, List.length_cons, List.length_nil, Nat.reduceLT, Nat.reduceAdd, Nat.reduceEqDiff, Nat.reduceLeDiff, Int32.reduceLT, Int32.reduceLE, reduceIte, true_and, and_true, true_or, or_true, not_true_eq_false, not_false_eq_true, false_imp_iff, true_imp_iff, implies_true]
    · have v1 : vp_in a 40 := vin a1 a2 hnc (by decide)
      by_cases a3 : nl a.toNatClampNeg = -1
      · simp (decide := true) only [BmC_drive, BSC, h0, h6, h8, a1, a2, a3, v1, EV, EW, CT, ev_o, ev_is, ev_gd, List.length_cons, List.length_nil, Nat.reduceLT, Nat.reduceAdd, Nat.reduceEqDiff, Nat.reduceLeDiff, Int32.reduceLT, Int32.reduceLE, reduceIte, true_and, and_true, true_or, or_true, not_true_eq_false, not_false_eq_true, false_imp_iff, true_imp_iff, implies_true]
      · by_cases b1 : b < 0
        · simp (decide := true) only [BmC_drive, BSC, h0, h6, h8, a1, a2, a3, v1, b1, EV, EW, CT, ev_o, ev_is, ev_gd, List.length_cons, List.length_nil, Nat.reduceLT, Nat.reduceAdd, Nat.reduceEqDiff, Nat.reduceLeDiff, Int32.reduceLT, Int32.reduceLE, reduceIte, true_and, and_true, true_or, or_true, not_true_eq_false, not_false_eq_true, false_imp_iff, true_imp_iff, implies_true]
        · have b2 : nI nc ≤ b := Decidable.byContradiction fun q => hb ⟨⟨a1, a2⟩, a3, b1, q⟩
          simp (decide := true) only [BmC_drive, BSC, h0, h6, h8, a1, a2, a3, v1, b1, b2, EV, EW, CT, ev_o, ev_is, ev_gd, List.length_cons, List.length_nil, Nat.reduceLT, Nat.reduceAdd, Nat.reduceEqDiff, Nat.reduceLeDiff, Int32.reduceLT, Int32.reduceLE, reduceIte, true_and, and_true, true_or, or_true, not_true_eq_false, not_false_eq_true, false_imp_iff, true_imp_iff, implies_true]
set_option maxHeartbeats 8000000 in
theorem c_C_drive {w : cx_W} {m : Int32} {nc ic lc oc l : Nat} {ib pb : Int32} {nn nl dv on : Nat → Int32} (a b : Int32) (hnc : nc ≤ 40) (ha : isNet nc a) (hl : nl a.toNatClampNeg = nI l) (hl6 : l < 6) (hb : isNet nc b) (h0 : w 0 = oC m) (hC : CW w nc ic lc oc ib pb nn nl dv on) : cx_MC mC_drive 12 0 0 [.ref 0, .int a, .int b] w 87 (fun r w2 => r = some (.int 1) ∧ w2 0 = oC 0 ∧ CW w2 nc ic lc oc ib ib nn nl (upd dv l b) on ∧ ∀ k, ¬ k = 0 ∧ ¬ k = 6 ∧ ¬ k = 9 → w2 k = w k) := by
  obtain ⟨h6, h7, h8, h9, h10⟩ := hC
  obtain ⟨a1, a2⟩ := ha
  obtain ⟨b1, b2⟩ := hb
  have v1 : vp_in a 40 := vin a1 a2 hnc (by decide)
  have v2 : vp_in (nI l) 6 := nI_in hl6 (by decide)
  have a3 : (nI l = -1) = False := eq_false ((show isN 6 (nI l) from ⟨l, hl6, rfl⟩).ne (by decide))
  refine cx_met 120 mC_drive_ok rfl ?_
  show cx_vc 120 none mC_drive 12 0 0 _ _ 0 [some (.ref 0), some (.int a), some (.int b)] [] w (87, 0, 0)
  simp (decide := true) only [BmC_drive, BSC, h0, h6, h8, h9, hl, a1, a2, a3, b1, b2, v1, v2, nI_clamp (n := l) (by omega), EV, EW, CT, ev_o, ev_is, ev_gd, List.length_cons, List.length_nil, Nat.reduceLT, Nat.reduceAdd, Nat.reduceEqDiff, Nat.reduceLeDiff, Int32.reduceLT, Int32.reduceLE, reduceIte, true_and, and_true, true_or, or_true, not_true_eq_false, not_false_eq_true, false_imp_iff, true_imp_iff, implies_true]
  refine ⟨⟨?_, ?_, ?_, ?_, ?_⟩, fun k hk => ?_⟩
  all_goals first
    | (simp only [cx_up, Nat.reduceEqDiff, reduceIte]; done)
    | (simp only [cx_up, Nat.reduceEqDiff, reduceIte]; first | rfl | exact h7 | exact h8 | exact h10)
    | (simp (disch := omega) only [cx_up, if_neg]; done)
