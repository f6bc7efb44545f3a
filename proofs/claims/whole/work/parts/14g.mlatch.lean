/-! Building, the reference: latch and output. Own work. -/
set_option maxHeartbeats 8000000 in
theorem c_M_latch_bad {w : cx_W} {x0 x1 x2 x3 x4 x5 x6 x7 x8 x9 : Int32} (a : Int32) (h45 : w 45 = oM x0 x1 x2 x3 x4 x5 x6 x7 x8 x9) (ha : ¬ (a = 0 ∨ a = 1)) : cx_MC mM_latch 12 0 0 [.ref 45, .int a] w 87 (fun r w2 => r = some (.int (-1)) ∧ w2 = w) := by
  refine cx_met 100 mM_latch_ok rfl ?_
  show cx_vc 100 none mM_latch 12 0 0 _ _ 0 [some (.ref 45), some (.int a), none] [] w (87, 0, 0)
  by_cases a1 : a < 0
  · simp (decide := true) only [BmM_latch, h45, a1, EV, EW, CT, ev_o, ev_is, ev_gd, List.length_cons, List.length_nil, Nat.reduceLT, Nat.reduceAdd, Nat.reduceEqDiff, Nat.reduceLeDiff, Int32.reduceLT, Int32.reduceLE, reduceIte, true_and, and_true, true_or, or_true, not_true_eq_false, not_false_eq_true, false_imp_iff, true_imp_iff, implies_true]
  · have a2 : ¬ a ≤ 1 := by
      intro q2
      have h1 : 0 ≤ a.toInt := by have := Int32.le_iff_toInt_le.mp (Int32.not_lt.mp a1); simpa using this
      have h2 : a.toInt ≤ 1 := by have := Int32.le_iff_toInt_le.mp q2; simpa using this
      rcases (show a.toInt = 0 ∨ a.toInt = 1 by omega) with h3 | h3
      · exact ha (Or.inl (Int32.toInt_inj.mp (by rw [h3]; rfl)))
      · exact ha (Or.inr (Int32.toInt_inj.mp (by rw [h3]; rfl)))
    simp (decide := true) only [BmM_latch, h45, a1, a2, EV, EW, CT, ev_o, ev_is, ev_gd, List.length_cons, List.length_nil, Nat.reduceLT, Nat.reduceAdd, Nat.reduceEqDiff, Nat.reduceLeDiff, Int32.reduceLT, Int32.reduceLE, reduceIte, true_and, and_true, true_or, or_true, not_true_eq_false, not_false_eq_true, false_imp_iff, true_imp_iff, implies_true]
set_option maxHeartbeats 8000000 in
theorem c_M_latch_full {w : cx_W} {nc lc n : Nat} {x1 x4 x5 x6 x7 x8 x9 : Int32} (a : Int32) (ha : a = 0 ∨ a = 1) (h45 : w 45 = oM (nI nc) x1 (nI lc) (nI n) x4 x5 x6 x7 x8 x9) (hnc : nc ≤ 40) (hlc : lc ≤ 6) (hn : n ≤ 48) (hf : nc = 40 ∨ lc = 6 ∨ n = 48) :
    cx_MC mM_latch 12 0 0 [.ref 45, .int a] w 87 (fun r w2 => r = some (.int (-2)) ∧ w2 = w) := by
  refine cx_met 100 mM_latch_ok rfl ?_
  show cx_vc 100 none mM_latch 12 0 0 _ _ 0 [some (.ref 45), some (.int a), none] [] w (87, 0, 0)
  have e1 := lek (a := nc) (c := 40) (x := 40) rfl (by omega) (by decide)
  have e2 := lek (a := lc) (c := 6) (x := 6) rfl (by omega) (by decide)
  have e3 := lek (a := n) (c := 48) (x := 48) rfl (by omega) (by decide)
  have f3 := ltk (a := n) (c := 48) (x := 48) rfl (by omega) (by decide)
  have a1 : (a < 0) = False := eq_false (by rcases ha with rfl | rfl <;> decide)
  have a2 : (a ≤ 1) = True := eq_true (by rcases ha with rfl | rfl <;> decide)
  by_cases c1 : nc = 40
  · have E1 := e1.trans (eq_true (by omega))
    simp (decide := true) only [BmM_latch, h45, a1, a2, E1, EV, EW, CT, ev_o, ev_is, ev_gd, List.length_cons, List.length_nil, Nat.reduceLT, Nat.reduceAdd, Nat.reduceEqDiff, Nat.reduceLeDiff, Int32.reduceLT, Int32.reduceLE, reduceIte, true_and, and_true, true_or, or_true, not_true_eq_false, not_false_eq_true, false_imp_iff, true_imp_iff, implies_true]
  · have E1 := e1.trans (eq_false (by omega))
    by_cases b : lc = 6
    · have E2 := e2.trans (eq_true (by omega))
      simp (decide := true) only [BmM_latch, h45, a1, a2, E1, E2, EV, EW, CT, ev_o, ev_is, ev_gd, List.length_cons, List.length_nil, Nat.reduceLT, Nat.reduceAdd, Nat.reduceEqDiff, Nat.reduceLeDiff, Int32.reduceLT, Int32.reduceLE, reduceIte, true_and, and_true, true_or, or_true, not_true_eq_false, not_false_eq_true, false_imp_iff, true_imp_iff, implies_true]
    · have E2 := e2.trans (eq_false (by omega))
      have E3 := e3.trans (eq_true (by omega))
      have F3 := f3.trans (eq_false (by omega))
      simp (decide := true) only [BmM_latch, h45, a1, a2, E1, E2, E3, F3, EV, EW, CT, ev_o, ev_is, ev_gd, List.length_cons, List.length_nil, Nat.reduceLT, Nat.reduceAdd, Nat.reduceEqDiff, Nat.reduceLeDiff, Int32.reduceLT, Int32.reduceLE, reduceIte, true_and, and_true, true_or, or_true, not_true_eq_false, not_false_eq_true, false_imp_iff, true_imp_iff, implies_true]
set_option maxHeartbeats 8000000 in
theorem c_M_latch {w : cx_W} {nc lc n : Nat} {x1 x4 x5 x6 x7 x8 x9 : Int32} {so na fi nw dr ki xs ys no : Nat → Int32} (a : Int32) (ha : a = 0 ∨ a = 1) (h45 : w 45 = oM (nI nc) x1 (nI lc) (nI n) x4 x5 x6 x7 x8 x9) (h46 : w 46 = ai 40 so) (h47 : w 47 = ai 40 na) (h48 : w 48 = ai 40 fi) (h49 : w 49 = ai 40 nw) (h50 : w 50 = ai 40 dr) (h56 : w 56 = ai 48 ki) (h57 : w 57 = ai 48 xs) (h58 : w 58 = ai 48 ys) (h59 : w 59 = ai 48 no) (hnc : nc < 40) (hlc : lc < 6) (hn : n < 48) :
    cx_MC mM_latch 12 0 0 [.ref 45, .int a] w 87 (fun r w2 => r = some (.int (nI nc)) ∧ w2 45 = oM (nI (nc + 1)) x1 (nI (lc + 1)) (nI (n + 1)) x4 x5 0 x7 x8 x9 ∧ w2 46 = ai 40 (upd so nc 1) ∧ w2 47 = ai 40 (upd na nc (nI n)) ∧ w2 48 = ai 40 (upd fi nc a) ∧ w2 49 = ai 40 (fun j => if j < nc + 1 then upd fi nc a j else nw j) ∧ w2 50 = ai 40 (upd dr nc (-1)) ∧ w2 56 = ai 48 (upd ki n 1) ∧ w2 57 = ai 48 (upd xs n (-1)) ∧ w2 58 = ai 48 (upd ys n (-1)) ∧ w2 59 = ai 48 (upd no n (nI nc)) ∧ ∀ k, (k < 45 ∨ 59 < k) ∨ (50 < k ∧ k < 56) → w2 k = w k) := by
  refine cx_met 100 mM_latch_ok rfl ?_
  show cx_vc 100 none mM_latch 12 0 0 _ _ 0 [some (.ref 45), some (.int a), none] [] w (87, 0, 0)
  have E1 := (lek (a := nc) (c := 40) (x := 40) rfl (by omega) (by decide)).trans (eq_false (by omega))
  have E2 := (lek (a := lc) (c := 6) (x := 6) rfl (by omega) (by decide)).trans (eq_false (by omega))
  have E3 := (lek (a := n) (c := 48) (x := 48) rfl (by omega) (by decide)).trans (eq_false (by omega))
  have F3 := (ltk (a := n) (c := 48) (x := 48) rfl (by omega) (by decide)).trans (eq_true hn)
  have a1 : (a < 0) = False := eq_false (by rcases ha with rfl | rfl <;> decide)
  have a2 : (a ≤ 1) = True := eq_true (by rcases ha with rfl | rfl <;> decide)
  have v1 : vp_in (nI n) 48 := nI_in hn (by decide)
  simp (decide := true) only [BmM_latch, BmM_newNode, h45, h56, h57, h58, h59, a1, a2, E1, E2, E3, F3, v1, nI_clamp (n := n) (by omega), nI_1, nI_pred, EV, EW, CT, ev_o, ev_is, ev_gd, List.length_cons, List.length_nil, Nat.reduceLT, Nat.reduceAdd, Nat.reduceEqDiff, Nat.reduceLeDiff, Int32.reduceLT, Int32.reduceLE, reduceIte, true_and, and_true, true_or, or_true, not_true_eq_false, not_false_eq_true, false_imp_iff, true_imp_iff, implies_true]
  refine cx_cs1 2 0 0 (by decide) (c_M_newNet (N := nc) (x1 := x1) (x2 := nI (lc + 1)) (x3 := nI (n + 1)) (x4 := x4) (x5 := x5) (x6 := x6) (x7 := x7) (x8 := x8) (x9 := x9) (so := so) (na := na) (fi := fi) (no := nw) (dr := dr) hnc (by simp only [cx_up, Nat.reduceEqDiff, reduceIte]) (by simp only [cx_up, Nat.reduceEqDiff, reduceIte]; exact h46) (by simp only [cx_up, Nat.reduceEqDiff, reduceIte]; exact h47) (by simp only [cx_up, Nat.reduceEqDiff, reduceIte]; exact h48) (by simp only [cx_up, Nat.reduceEqDiff, reduceIte]; exact h49) (by simp only [cx_up, Nat.reduceEqDiff, reduceIte]; exact h50)) fun r w2 q => ?_
  obtain ⟨rfl, g45, g46, g47, g48, g49, g50, gk⟩ := q
  simp (decide := true) only [BmM_latch, EV, EW, CT, ev_o, ev_is, ev_gd, List.length_cons, List.length_nil, Nat.reduceLT, Nat.reduceAdd, Nat.reduceEqDiff, Nat.reduceLeDiff, Int32.reduceLT, Int32.reduceLE, reduceIte, true_and, and_true, true_or, or_true, not_true_eq_false, not_false_eq_true, false_imp_iff, true_imp_iff, implies_true]
  refine ⟨g45, g46, g47, g48, g49, g50, ?_, ?_, ?_, ?_, fun k hk => ?_⟩
  · rw [gk 56 (by omega)]; simp only [cx_up, Nat.reduceEqDiff, reduceIte]
  · rw [gk 57 (by omega)]; simp only [cx_up, Nat.reduceEqDiff, reduceIte]
  · rw [gk 58 (by omega)]; simp only [cx_up, Nat.reduceEqDiff, reduceIte]
  · rw [gk 59 (by omega)]; simp only [cx_up, Nat.reduceEqDiff, reduceIte]
  · rw [gk k (by omega)]
    simp (disch := omega) only [cx_up, if_neg]
