/-! Building, the reference: function. Printed by gen_fun3.py. -/
set_option maxHeartbeats 4000000 in
theorem c_M_function_bad {w : cx_W} {nc : Nat} {x1 x2 x3 x4 x5 x6 x7 x8 x9 : Int32} (a b c t : Int32) (hb : ¬ fOK nc a b c t) (h45 : w 45 = oM (nI nc) x1 x2 x3 x4 x5 x6 x7 x8 x9) : cx_MC mM_function 12 0 0 [.ref 45, .int a, .int b, .int c, .int t] w 87 (fun r w2 => r = some (.int (-1)) ∧ w2 = w) := by
  refine cx_met 200 mM_function_ok rfl ?_
  show cx_vc 200 none mM_function 12 0 0 _ _ 0 [some (.ref 45), some (.int a), some (.int b), some (.int c), some (.int t), none, none] [] w (87, 0, 0)
  have one : (1 : Int32) = 1 := rfl
  by_cases A : isNet nc a
  · have a1 := eq_false A.1
    have a2 := eq_false A.2
    by_cases B : b = -1
    · subst B
      by_cases C : c = -1
      · subst C
        by_cases T1 : t ≤ 0
        · have T1' := eq_true T1
          simp (decide := true) only [BmM_function, BmM_isNet, h45, a1, a2, T1', or_false, false_or, or_self, and_false, false_and, EV, EW, CT, ev_o, ev_is, ev_gd, List.length_cons, List.length_nil, Nat.reduceLT, Nat.reduceAdd, Nat.reduceEqDiff, Nat.reduceLeDiff, Int32.reduceLT, Int32.reduceLE, reduceIte, true_and, and_true, true_or, or_true, not_true_eq_false, not_false_eq_true, false_imp_iff, true_imp_iff, implies_true]
        · have T1' := eq_false T1
          have T2 : (3 ≤ t) = True := eq_true (Decidable.byContradiction fun q => hb (Or.inl ⟨A, rfl, rfl, Int32.not_le.mp T1, Int32.not_le.mp q⟩))
          have T3 : (t < 3) = False := eq_false (Int32.not_lt.mpr (of_eq_true T2))
          simp (decide := true) only [BmM_function, BmM_isNet, h45, a1, a2, T1', T2, T3, or_false, false_or, or_self, and_false, false_and, EV, EW, CT, ev_o, ev_is, ev_gd, List.length_cons, List.length_nil, Nat.reduceLT, Nat.reduceAdd, Nat.reduceEqDiff, Nat.reduceLeDiff, Int32.reduceLT, Int32.reduceLE, reduceIte, true_and, and_true, true_or, or_true, not_true_eq_false, not_false_eq_true, false_imp_iff, true_imp_iff, implies_true]
      · have C' := eq_false C
        by_cases D : isNet nc c
        · have c1 := eq_false D.1
          have c2 := eq_false D.2
          simp (decide := true) only [BmM_function, BmM_isNet, h45, a1, a2, C', c1, c2, or_false, false_or, or_self, and_false, false_and, EV, EW, CT, ev_o, ev_is, ev_gd, List.length_cons, List.length_nil, Nat.reduceLT, Nat.reduceAdd, Nat.reduceEqDiff, Nat.reduceLeDiff, Int32.reduceLT, Int32.reduceLE, reduceIte, true_and, and_true, true_or, or_true, not_true_eq_false, not_false_eq_true, false_imp_iff, true_imp_iff, implies_true]
        · rcases isNet_dec D with c1 | ⟨c1, c2⟩
          · simp (decide := true) only [BmM_function, BmM_isNet, h45, a1, a2, C', c1, or_false, false_or, or_self, and_false, false_and, EV, EW, CT, ev_o, ev_is, ev_gd, List.length_cons, List.length_nil, Nat.reduceLT, Nat.reduceAdd, Nat.reduceEqDiff, Nat.reduceLeDiff, Int32.reduceLT, Int32.reduceLE, reduceIte, true_and, and_true, true_or, or_true, not_true_eq_false, not_false_eq_true, false_imp_iff, true_imp_iff, implies_true]
          · simp (decide := true) only [BmM_function, BmM_isNet, h45, a1, a2, C', c1, c2, or_false, false_or, or_self, and_false, false_and, EV, EW, CT, ev_o, ev_is, ev_gd, List.length_cons, List.length_nil, Nat.reduceLT, Nat.reduceAdd, Nat.reduceEqDiff, Nat.reduceLeDiff, Int32.reduceLT, Int32.reduceLE, reduceIte, true_and, and_true, true_or, or_true, not_true_eq_false, not_false_eq_true, false_imp_iff, true_imp_iff, implies_true]
    · have B' := eq_false B
      by_cases D : isNet nc b
      · have b1 := eq_false D.1
        have b2 := eq_false D.2
        by_cases C : c = -1
        · subst C
          by_cases T1 : t ≤ 0
          · have T1' := eq_true T1
            simp (decide := true) only [BmM_function, BmM_isNet, h45, a1, a2, B', b1, b2, T1', or_false, false_or, or_self, and_false, false_and, EV, EW, CT, ev_o, ev_is, ev_gd, List.length_cons, List.length_nil, Nat.reduceLT, Nat.reduceAdd, Nat.reduceEqDiff, Nat.reduceLeDiff, Int32.reduceLT, Int32.reduceLE, reduceIte, true_and, and_true, true_or, or_true, not_true_eq_false, not_false_eq_true, false_imp_iff, true_imp_iff, implies_true]
          · have T1' := eq_false T1
            have T2 : (15 ≤ t) = True := eq_true (Decidable.byContradiction fun q => hb (Or.inr (Or.inl ⟨A, D, rfl, Int32.not_le.mp T1, Int32.not_le.mp q⟩)))
            have T3 : (t < 15) = False := eq_false (Int32.not_lt.mpr (of_eq_true T2))
            simp (decide := true) only [BmM_function, BmM_isNet, h45, a1, a2, B', b1, b2, T1', T2, T3, or_false, false_or, or_self, and_false, false_and, EV, EW, CT, ev_o, ev_is, ev_gd, List.length_cons, List.length_nil, Nat.reduceLT, Nat.reduceAdd, Nat.reduceEqDiff, Nat.reduceLeDiff, Int32.reduceLT, Int32.reduceLE, reduceIte, true_and, and_true, true_or, or_true, not_true_eq_false, not_false_eq_true, false_imp_iff, true_imp_iff, implies_true]
        · have C' := eq_false C
          by_cases E : isNet nc c
          · have c1 := eq_false E.1
            have c2 := eq_false E.2
            by_cases T1 : t ≤ 0
            · have T1' := eq_true T1
              simp (decide := true) only [BmM_function, BmM_isNet, h45, a1, a2, B', b1, b2, C', c1, c2, T1', or_false, false_or, or_self, and_false, false_and, EV, EW, CT, ev_o, ev_is, ev_gd, List.length_cons, List.length_nil, Nat.reduceLT, Nat.reduceAdd, Nat.reduceEqDiff, Nat.reduceLeDiff, Int32.reduceLT, Int32.reduceLE, reduceIte, true_and, and_true, true_or, or_true, not_true_eq_false, not_false_eq_true, false_imp_iff, true_imp_iff, implies_true]
            · have T1' := eq_false T1
              have T2 : (255 ≤ t) = True := eq_true (Decidable.byContradiction fun q => hb (Or.inr (Or.inr ⟨A, D, E, Int32.not_le.mp T1, Int32.not_le.mp q⟩)))
              have T3 : (t < 255) = False := eq_false (Int32.not_lt.mpr (of_eq_true T2))
              simp (decide := true) only [BmM_function, BmM_isNet, h45, a1, a2, B', b1, b2, C', c1, c2, T1', T2, T3, or_false, false_or, or_self, and_false, false_and, EV, EW, CT, ev_o, ev_is, ev_gd, List.length_cons, List.length_nil, Nat.reduceLT, Nat.reduceAdd, Nat.reduceEqDiff, Nat.reduceLeDiff, Int32.reduceLT, Int32.reduceLE, reduceIte, true_and, and_true, true_or, or_true, not_true_eq_false, not_false_eq_true, false_imp_iff, true_imp_iff, implies_true]
          · rcases isNet_dec E with c1 | ⟨c1, c2⟩
            · simp (decide := true) only [BmM_function, BmM_isNet, h45, a1, a2, B', b1, b2, C', c1, or_false, false_or, or_self, and_false, false_and, EV, EW, CT, ev_o, ev_is, ev_gd, List.length_cons, List.length_nil, Nat.reduceLT, Nat.reduceAdd, Nat.reduceEqDiff, Nat.reduceLeDiff, Int32.reduceLT, Int32.reduceLE, reduceIte, true_and, and_true, true_or, or_true, not_true_eq_false, not_false_eq_true, false_imp_iff, true_imp_iff, implies_true]
            · simp (decide := true) only [BmM_function, BmM_isNet, h45, a1, a2, B', b1, b2, C', c1, c2, or_false, false_or, or_self, and_false, false_and, EV, EW, CT, ev_o, ev_is, ev_gd, List.length_cons, List.length_nil, Nat.reduceLT, Nat.reduceAdd, Nat.reduceEqDiff, Nat.reduceLeDiff, Int32.reduceLT, Int32.reduceLE, reduceIte, true_and, and_true, true_or, or_true, not_true_eq_false, not_false_eq_true, false_imp_iff, true_imp_iff, implies_true]
      · rcases isNet_dec D with b1 | ⟨b1, b2⟩
        · simp (decide := true) only [BmM_function, BmM_isNet, h45, a1, a2, B', b1, or_false, false_or, or_self, and_false, false_and, EV, EW, CT, ev_o, ev_is, ev_gd, List.length_cons, List.length_nil, Nat.reduceLT, Nat.reduceAdd, Nat.reduceEqDiff, Nat.reduceLeDiff, Int32.reduceLT, Int32.reduceLE, reduceIte, true_and, and_true, true_or, or_true, not_true_eq_false, not_false_eq_true, false_imp_iff, true_imp_iff, implies_true]
        · simp (decide := true) only [BmM_function, BmM_isNet, h45, a1, a2, B', b1, b2, or_false, false_or, or_self, and_false, false_and, EV, EW, CT, ev_o, ev_is, ev_gd, List.length_cons, List.length_nil, Nat.reduceLT, Nat.reduceAdd, Nat.reduceEqDiff, Nat.reduceLeDiff, Int32.reduceLT, Int32.reduceLE, reduceIte, true_and, and_true, true_or, or_true, not_true_eq_false, not_false_eq_true, false_imp_iff, true_imp_iff, implies_true]
  · rcases isNet_dec A with a1 | ⟨a1, a2⟩
    · simp (decide := true) only [BmM_function, BmM_isNet, h45, a1, or_false, false_or, or_self, and_false, false_and, EV, EW, CT, ev_o, ev_is, ev_gd, List.length_cons, List.length_nil, Nat.reduceLT, Nat.reduceAdd, Nat.reduceEqDiff, Nat.reduceLeDiff, Int32.reduceLT, Int32.reduceLE, reduceIte, true_and, and_true, true_or, or_true, not_true_eq_false, not_false_eq_true, false_imp_iff, true_imp_iff, implies_true]
    · simp (decide := true) only [BmM_function, BmM_isNet, h45, a1, a2, or_false, false_or, or_self, and_false, false_and, EV, EW, CT, ev_o, ev_is, ev_gd, List.length_cons, List.length_nil, Nat.reduceLT, Nat.reduceAdd, Nat.reduceEqDiff, Nat.reduceLeDiff, Int32.reduceLT, Int32.reduceLE, reduceIte, true_and, and_true, true_or, or_true, not_true_eq_false, not_false_eq_true, false_imp_iff, true_imp_iff, implies_true]
set_option maxHeartbeats 4000000 in
theorem c_M_function1_full {w : cx_W} {nc n t i0 : Nat} {x1 x2 x4 x5 x6 x7 x8 x9 : Int32} (hi0 : i0 < nc) (h45 : w 45 = oM (nI nc) x1 x2 (nI n) x4 x5 x6 x7 x8 x9) (hnc : nc ≤ 40) (hn : n ≤ 48) (ht0 : 0 < t) (ht : t < 3) (hf : nc = 40 ∨ 32 < n) : cx_MC mM_function 12 0 0 [.ref 45, .int (nI i0), .int (-1), .int (-1), .int (nI t)] w 87 (fun r w2 => r = some (.int (-2)) ∧ w2 = w) := by
  have T1 : (nI t ≤ 0) = False := eq_false (Int32.not_le.mpr (nI_lt (a := 0) ht0 (by omega)))
  have T2 : (3 ≤ nI t) = False := eq_false (Int32.not_le.mpr (nI_lt (b := 3) ht (by omega)))
  have T3 : (nI t < 3) = True := eq_true (nI_lt (b := 3) ht (by omega))
  have ai0 : (nI i0 < 0) = False := eq_false (nI_pos (by omega))
  have bi0 : (nI nc ≤ nI i0) = False := (lek (a := i0) (c := nc) (x := nI nc) rfl (by omega) (by omega)).trans (eq_false (by omega))
  have ei0 : (nI i0 = -1) = False := eq_false fun e => (nI_pos (n := i0) (by omega)) (by rw [e]; decide)
  refine cx_met 200 mM_function_ok rfl ?_
  show cx_vc 200 none mM_function 12 0 0 _ _ 0 [some (.ref 45), some (.int (nI i0)), some (.int (-1)), some (.int (-1)), some (.int (nI t)), none, none] [] w (87, 0, 0)
  have e1 := lek (a := nc) (c := 40) (x := 40) rfl (by omega) (by decide)
  by_cases q : nc = 40
  · have E1 := e1.trans (eq_true (by omega))
    simp (decide := true) only [BmM_function, BmM_isNet, h45, ai0, bi0, ei0, T1, T2, T3, E1, EV, EW, CT, ev_o, ev_is, ev_gd, List.length_cons, List.length_nil, Nat.reduceLT, Nat.reduceAdd, Nat.reduceEqDiff, Nat.reduceLeDiff, Int32.reduceLT, Int32.reduceLE, reduceIte, true_and, and_true, true_or, or_true, not_true_eq_false, not_false_eq_true, false_imp_iff, true_imp_iff, implies_true]
  · have E1 := e1.trans (eq_false (by omega))
    have E2 : (nI n ≤ 32) = False := eq_false (Int32.not_le.mpr (nI_lt (a := 32) (by omega) (by omega)))
    simp (decide := true) only [BmM_function, BmM_isNet, h45, ai0, bi0, ei0, T1, T2, T3, E1, E2, EV, EW, CT, ev_o, ev_is, ev_gd, List.length_cons, List.length_nil, Nat.reduceLT, Nat.reduceAdd, Nat.reduceEqDiff, Nat.reduceLeDiff, Int32.reduceLT, Int32.reduceLE, reduceIte, true_and, and_true, true_or, or_true, not_true_eq_false, not_false_eq_true, false_imp_iff, true_imp_iff, implies_true]
set_option maxHeartbeats 4000000 in
theorem c_M_function1 {w : cx_W} {G : Gr} {nc t : Nat} {x1 x2 x4 x5 x6 x7 x8 x9 : Int32} {i0 : Nat} {so na fi nw dr aA aB aC tO no : Nat → Int32} (hi0 : i0 < nc) (h45 : w 45 = oM (nI nc) x1 x2 (nI G.1) x4 x5 x6 x7 x8 x9) (h46 : w 46 = ai 40 so) (h47 : w 47 = ai 40 na) (h48 : w 48 = ai 40 fi) (h49 : w 49 = ai 40 nw) (h50 : w 50 = ai 40 dr) (h51 : w 51 = ai 40 aA) (h52 : w 52 = ai 40 aB) (h53 : w 53 = ai 40 aC) (h54 : w 54 = ai 40 tO) (h56 : w 56 = ai 48 G.2.1) (h57 : w 57 = ai 48 G.2.2.1) (h58 : w 58 = ai 48 G.2.2.2) (h59 : w 59 = ai 48 no) (hW : WFG 3 2 G) (hnc : nc < 40) (hn : G.1 ≤ 32) (hzi0 : isN G.1 (na i0)) (ht0 : 0 < t) (ht : t < 3) :
    cx_MC mM_function 12 0 0 [.ref 45, .int (nI i0), .int (-1), .int (-1), .int (nI t)] w 87 (fun r w2 => r = some (.int (nI nc)) ∧ w2 45 = oM (nI (nc + 1)) x1 x2 (nI (tab1 3 2 G (na i0) t).2.1) x4 x5 0 x7 x8 x9 ∧ w2 46 = ai 40 (upd so nc 2) ∧ w2 47 = ai 40 (upd na nc (tab1 3 2 G (na i0) t).1) ∧ w2 48 = ai 40 (upd fi nc 0) ∧ w2 49 = ai 40 (fun j => if j < nc + 1 then upd fi nc 0 j else nw j) ∧ w2 50 = ai 40 (upd dr nc (-1)) ∧ w2 51 = ai 40 (upd aA nc (nI i0)) ∧ w2 52 = ai 40 (upd aB nc (-1)) ∧ w2 53 = ai 40 (upd aC nc (-1)) ∧ w2 54 = ai 40 (upd tO nc (nI t)) ∧ w2 56 = ai 48 (tab1 3 2 G (na i0) t).2.2.1 ∧ w2 57 = ai 48 (tab1 3 2 G (na i0) t).2.2.2.1 ∧ w2 58 = ai 48 (tab1 3 2 G (na i0) t).2.2.2.2 ∧ (∃ no2, w2 59 = ai 48 no2 ∧ ∀ j, j < G.1 → no2 j = no j) ∧ ∀ k, (k < 45 ∨ 59 < k) ∨ k = 55 → w2 k = w k) := by
  have T1 : (nI t ≤ 0) = False := eq_false (Int32.not_le.mpr (nI_lt (a := 0) ht0 (by omega)))
  have T2 : (3 ≤ nI t) = False := eq_false (Int32.not_le.mpr (nI_lt (b := 3) ht (by omega)))
  have T3 : (nI t < 3) = True := eq_true (nI_lt (b := 3) ht (by omega))
  have ai0 : (nI i0 < 0) = False := eq_false (nI_pos (by omega))
  have bi0 : (nI nc ≤ nI i0) = False := (lek (a := i0) (c := nc) (x := nI nc) rfl (by omega) (by omega)).trans (eq_false (by omega))
  have ei0 : (nI i0 = -1) = False := eq_false fun e => (nI_pos (n := i0) (by omega)) (by rw [e]; decide)
  have E1 := (lek (a := nc) (c := 40) (x := 40) rfl (by omega) (by decide)).trans (eq_false (by omega))
  have E2 : (nI G.1 ≤ 32) = True := eq_true (nI_le (b := 32) hn (by decide))
  have v1 : vp_in (nI nc) 40 := nI_in hnc (by decide)
  refine cx_met 200 mM_function_ok rfl ?_
  show cx_vc 200 none mM_function 12 0 0 _ _ 0 [some (.ref 45), some (.int (nI i0)), some (.int (-1)), some (.int (-1)), some (.int (nI t)), none, none] [] w (87, 0, 0)
  simp (decide := true) only [BmM_function, BmM_isNet, h45, h51, h52, h53, h54, ai0, bi0, ei0, T1, T2, T3, E1, E2, v1, nI_clamp (n := nc) (by omega), EV, EW, CT, ev_o, ev_is, ev_gd, List.length_cons, List.length_nil, Nat.reduceLT, Nat.reduceAdd, Nat.reduceEqDiff, Nat.reduceLeDiff, Int32.reduceLT, Int32.reduceLE, reduceIte, true_and, and_true, true_or, or_true, not_true_eq_false, not_false_eq_true, false_imp_iff, true_imp_iff, implies_true]
  refine cx_cs1 5 0 0 (by decide) (c_M_over1 (x := [nI nc, x1, x2, x4, x5, x6, x7, x8, x9]) (G := G) (no := no) (na := na) ⟨by simp only [cx_up, Nat.reduceEqDiff, reduceIte]; exact h45, by simp only [cx_up, Nat.reduceEqDiff, reduceIte]; exact h56, by simp only [cx_up, Nat.reduceEqDiff, reduceIte]; exact h57, by simp only [cx_up, Nat.reduceEqDiff, reduceIte]; exact h58, by simp only [cx_up, Nat.reduceEqDiff, reduceIte]; exact h59⟩ hW (by omega) (by simp only [cx_up, Nat.reduceEqDiff, reduceIte]; exact h47) (by omega) hzi0 (by omega)) fun r w2 q => ?_
  obtain ⟨rfl, ⟨no2, ⟨g45, g56, g57, g58, g59⟩, hno⟩, hk⟩ := q
  have g45' : w2 45 = oM (nI nc) x1 x2 (nI (tab1 3 2 G (na i0) t).2.1) x4 x5 x6 x7 x8 x9 := g45
  have k46 : w2 46 = ai 40 so := by rw [hk 46 (by unfold mfr; omega)]; simp only [cx_up, Nat.reduceEqDiff, reduceIte]; exact h46
  have k47 : w2 47 = ai 40 na := by rw [hk 47 (by unfold mfr; omega)]; simp only [cx_up, Nat.reduceEqDiff, reduceIte]; exact h47
  have k48 : w2 48 = ai 40 fi := by rw [hk 48 (by unfold mfr; omega)]; simp only [cx_up, Nat.reduceEqDiff, reduceIte]; exact h48
  have k49 : w2 49 = ai 40 nw := by rw [hk 49 (by unfold mfr; omega)]; simp only [cx_up, Nat.reduceEqDiff, reduceIte]; exact h49
  have k50 : w2 50 = ai 40 dr := by rw [hk 50 (by unfold mfr; omega)]; simp only [cx_up, Nat.reduceEqDiff, reduceIte]; exact h50
  simp (decide := true) only [BmM_function, g45', EV, EW, CT, ev_o, ev_is, ev_gd, List.length_cons, List.length_nil, Nat.reduceLT, Nat.reduceAdd, Nat.reduceEqDiff, Nat.reduceLeDiff, Int32.reduceLT, Int32.reduceLE, reduceIte, true_and, and_true, true_or, or_true, not_true_eq_false, not_false_eq_true, false_imp_iff, true_imp_iff, implies_true]
  refine cx_cs1 2 0 0 (by decide) (c_M_newNet (N := nc) hnc g45' k46 k47 k48 k49 k50) fun r w3 q => ?_
  obtain ⟨rfl, f45, f46, f47, f48, f49, f50, fk⟩ := q
  simp (decide := true) only [BmM_function, EV, EW, CT, ev_o, ev_is, ev_gd, List.length_cons, List.length_nil, Nat.reduceLT, Nat.reduceAdd, Nat.reduceEqDiff, Nat.reduceLeDiff, Int32.reduceLT, Int32.reduceLE, reduceIte, true_and, and_true, true_or, or_true, not_true_eq_false, not_false_eq_true, false_imp_iff, true_imp_iff, implies_true]
  refine ⟨f45, f46, f47, f48, f49, f50, ?_, ?_, ?_, ?_, ?_, ?_, ?_, ⟨no2, ?_, hno⟩, fun k hk2 => ?_⟩
  · rw [fk 51 (by omega), hk 51 (by unfold mfr; omega)]; simp only [cx_up, Nat.reduceEqDiff, reduceIte]
  · rw [fk 52 (by omega), hk 52 (by unfold mfr; omega)]; simp only [cx_up, Nat.reduceEqDiff, reduceIte]
  · rw [fk 53 (by omega), hk 53 (by unfold mfr; omega)]; simp only [cx_up, Nat.reduceEqDiff, reduceIte]
  · rw [fk 54 (by omega), hk 54 (by unfold mfr; omega)]; simp only [cx_up, Nat.reduceEqDiff, reduceIte]
  · rw [fk 56 (by omega)]; exact g56
  · rw [fk 57 (by omega)]; exact g57
  · rw [fk 58 (by omega)]; exact g58
  · rw [fk 59 (by omega)]; exact g59
  · rw [fk k (by omega), hk k (by unfold mfr; omega)]
    simp (disch := omega) only [cx_up, if_neg]
set_option maxHeartbeats 4000000 in
theorem c_M_function2_full {w : cx_W} {nc n t i0 i1 : Nat} {x1 x2 x4 x5 x6 x7 x8 x9 : Int32} (hi0 : i0 < nc) (hi1 : i1 < nc) (h45 : w 45 = oM (nI nc) x1 x2 (nI n) x4 x5 x6 x7 x8 x9) (hnc : nc ≤ 40) (hn : n ≤ 48) (ht0 : 0 < t) (ht : t < 15) (hf : nc = 40 ∨ 32 < n) : cx_MC mM_function 12 0 0 [.ref 45, .int (nI i0), .int (nI i1), .int (-1), .int (nI t)] w 87 (fun r w2 => r = some (.int (-2)) ∧ w2 = w) := by
  have T1 : (nI t ≤ 0) = False := eq_false (Int32.not_le.mpr (nI_lt (a := 0) ht0 (by omega)))
  have T2 : (15 ≤ nI t) = False := eq_false (Int32.not_le.mpr (nI_lt (b := 15) ht (by omega)))
  have T3 : (nI t < 15) = True := eq_true (nI_lt (b := 15) ht (by omega))
  have ai0 : (nI i0 < 0) = False := eq_false (nI_pos (by omega))
  have bi0 : (nI nc ≤ nI i0) = False := (lek (a := i0) (c := nc) (x := nI nc) rfl (by omega) (by omega)).trans (eq_false (by omega))
  have ei0 : (nI i0 = -1) = False := eq_false fun e => (nI_pos (n := i0) (by omega)) (by rw [e]; decide)
  have ai1 : (nI i1 < 0) = False := eq_false (nI_pos (by omega))
  have bi1 : (nI nc ≤ nI i1) = False := (lek (a := i1) (c := nc) (x := nI nc) rfl (by omega) (by omega)).trans (eq_false (by omega))
  have ei1 : (nI i1 = -1) = False := eq_false fun e => (nI_pos (n := i1) (by omega)) (by rw [e]; decide)
  refine cx_met 200 mM_function_ok rfl ?_
  show cx_vc 200 none mM_function 12 0 0 _ _ 0 [some (.ref 45), some (.int (nI i0)), some (.int (nI i1)), some (.int (-1)), some (.int (nI t)), none, none] [] w (87, 0, 0)
  have e1 := lek (a := nc) (c := 40) (x := 40) rfl (by omega) (by decide)
  by_cases q : nc = 40
  · have E1 := e1.trans (eq_true (by omega))
    simp (decide := true) only [BmM_function, BmM_isNet, h45, ai0, bi0, ei0, ai1, bi1, ei1, T1, T2, T3, E1, EV, EW, CT, ev_o, ev_is, ev_gd, List.length_cons, List.length_nil, Nat.reduceLT, Nat.reduceAdd, Nat.reduceEqDiff, Nat.reduceLeDiff, Int32.reduceLT, Int32.reduceLE, reduceIte, true_and, and_true, true_or, or_true, not_true_eq_false, not_false_eq_true, false_imp_iff, true_imp_iff, implies_true]
  · have E1 := e1.trans (eq_false (by omega))
    have E2 : (nI n ≤ 32) = False := eq_false (Int32.not_le.mpr (nI_lt (a := 32) (by omega) (by omega)))
    simp (decide := true) only [BmM_function, BmM_isNet, h45, ai0, bi0, ei0, ai1, bi1, ei1, T1, T2, T3, E1, E2, EV, EW, CT, ev_o, ev_is, ev_gd, List.length_cons, List.length_nil, Nat.reduceLT, Nat.reduceAdd, Nat.reduceEqDiff, Nat.reduceLeDiff, Int32.reduceLT, Int32.reduceLE, reduceIte, true_and, and_true, true_or, or_true, not_true_eq_false, not_false_eq_true, false_imp_iff, true_imp_iff, implies_true]
set_option maxHeartbeats 4000000 in
theorem c_M_function2 {w : cx_W} {G : Gr} {nc t : Nat} {x1 x2 x4 x5 x6 x7 x8 x9 : Int32} {i0 i1 : Nat} {so na fi nw dr aA aB aC tO no : Nat → Int32} (hi0 : i0 < nc) (hi1 : i1 < nc) (h45 : w 45 = oM (nI nc) x1 x2 (nI G.1) x4 x5 x6 x7 x8 x9) (h46 : w 46 = ai 40 so) (h47 : w 47 = ai 40 na) (h48 : w 48 = ai 40 fi) (h49 : w 49 = ai 40 nw) (h50 : w 50 = ai 40 dr) (h51 : w 51 = ai 40 aA) (h52 : w 52 = ai 40 aB) (h53 : w 53 = ai 40 aC) (h54 : w 54 = ai 40 tO) (h56 : w 56 = ai 48 G.2.1) (h57 : w 57 = ai 48 G.2.2.1) (h58 : w 58 = ai 48 G.2.2.2) (h59 : w 59 = ai 48 no) (hW : WFG 3 2 G) (hnc : nc < 40) (hn : G.1 ≤ 32) (hzi0 : isN G.1 (na i0)) (hzi1 : isN G.1 (na i1)) (ht0 : 0 < t) (ht : t < 15) :
    cx_MC mM_function 12 0 0 [.ref 45, .int (nI i0), .int (nI i1), .int (-1), .int (nI t)] w 87 (fun r w2 => r = some (.int (nI nc)) ∧ w2 45 = oM (nI (nc + 1)) x1 x2 (nI (tab2 3 2 G (na i0) (na i1) t).2.1) x4 x5 0 x7 x8 x9 ∧ w2 46 = ai 40 (upd so nc 2) ∧ w2 47 = ai 40 (upd na nc (tab2 3 2 G (na i0) (na i1) t).1) ∧ w2 48 = ai 40 (upd fi nc 0) ∧ w2 49 = ai 40 (fun j => if j < nc + 1 then upd fi nc 0 j else nw j) ∧ w2 50 = ai 40 (upd dr nc (-1)) ∧ w2 51 = ai 40 (upd aA nc (nI i0)) ∧ w2 52 = ai 40 (upd aB nc (nI i1)) ∧ w2 53 = ai 40 (upd aC nc (-1)) ∧ w2 54 = ai 40 (upd tO nc (nI t)) ∧ w2 56 = ai 48 (tab2 3 2 G (na i0) (na i1) t).2.2.1 ∧ w2 57 = ai 48 (tab2 3 2 G (na i0) (na i1) t).2.2.2.1 ∧ w2 58 = ai 48 (tab2 3 2 G (na i0) (na i1) t).2.2.2.2 ∧ (∃ no2, w2 59 = ai 48 no2 ∧ ∀ j, j < G.1 → no2 j = no j) ∧ ∀ k, (k < 45 ∨ 59 < k) ∨ k = 55 → w2 k = w k) := by
  have T1 : (nI t ≤ 0) = False := eq_false (Int32.not_le.mpr (nI_lt (a := 0) ht0 (by omega)))
  have T2 : (15 ≤ nI t) = False := eq_false (Int32.not_le.mpr (nI_lt (b := 15) ht (by omega)))
  have T3 : (nI t < 15) = True := eq_true (nI_lt (b := 15) ht (by omega))
  have ai0 : (nI i0 < 0) = False := eq_false (nI_pos (by omega))
  have bi0 : (nI nc ≤ nI i0) = False := (lek (a := i0) (c := nc) (x := nI nc) rfl (by omega) (by omega)).trans (eq_false (by omega))
  have ei0 : (nI i0 = -1) = False := eq_false fun e => (nI_pos (n := i0) (by omega)) (by rw [e]; decide)
  have ai1 : (nI i1 < 0) = False := eq_false (nI_pos (by omega))
  have bi1 : (nI nc ≤ nI i1) = False := (lek (a := i1) (c := nc) (x := nI nc) rfl (by omega) (by omega)).trans (eq_false (by omega))
  have ei1 : (nI i1 = -1) = False := eq_false fun e => (nI_pos (n := i1) (by omega)) (by rw [e]; decide)
  have E1 := (lek (a := nc) (c := 40) (x := 40) rfl (by omega) (by decide)).trans (eq_false (by omega))
  have E2 : (nI G.1 ≤ 32) = True := eq_true (nI_le (b := 32) hn (by decide))
  have v1 : vp_in (nI nc) 40 := nI_in hnc (by decide)
  refine cx_met 200 mM_function_ok rfl ?_
  show cx_vc 200 none mM_function 12 0 0 _ _ 0 [some (.ref 45), some (.int (nI i0)), some (.int (nI i1)), some (.int (-1)), some (.int (nI t)), none, none] [] w (87, 0, 0)
  simp (decide := true) only [BmM_function, BmM_isNet, h45, h51, h52, h53, h54, ai0, bi0, ei0, ai1, bi1, ei1, T1, T2, T3, E1, E2, v1, nI_clamp (n := nc) (by omega), EV, EW, CT, ev_o, ev_is, ev_gd, List.length_cons, List.length_nil, Nat.reduceLT, Nat.reduceAdd, Nat.reduceEqDiff, Nat.reduceLeDiff, Int32.reduceLT, Int32.reduceLE, reduceIte, true_and, and_true, true_or, or_true, not_true_eq_false, not_false_eq_true, false_imp_iff, true_imp_iff, implies_true]
  refine cx_cs1 6 0 0 (by decide) (c_M_over2 (x := [nI nc, x1, x2, x4, x5, x6, x7, x8, x9]) (G := G) (no := no) (na := na) ⟨by simp only [cx_up, Nat.reduceEqDiff, reduceIte]; exact h45, by simp only [cx_up, Nat.reduceEqDiff, reduceIte]; exact h56, by simp only [cx_up, Nat.reduceEqDiff, reduceIte]; exact h57, by simp only [cx_up, Nat.reduceEqDiff, reduceIte]; exact h58, by simp only [cx_up, Nat.reduceEqDiff, reduceIte]; exact h59⟩ hW (by omega) (by simp only [cx_up, Nat.reduceEqDiff, reduceIte]; exact h47) (by omega) (by omega) hzi0 hzi1 ht0 ht) fun r w2 q => ?_
  obtain ⟨rfl, ⟨no2, ⟨g45, g56, g57, g58, g59⟩, hno⟩, hk⟩ := q
  have g45' : w2 45 = oM (nI nc) x1 x2 (nI (tab2 3 2 G (na i0) (na i1) t).2.1) x4 x5 x6 x7 x8 x9 := g45
  have k46 : w2 46 = ai 40 so := by rw [hk 46 (by unfold mfr; omega)]; simp only [cx_up, Nat.reduceEqDiff, reduceIte]; exact h46
  have k47 : w2 47 = ai 40 na := by rw [hk 47 (by unfold mfr; omega)]; simp only [cx_up, Nat.reduceEqDiff, reduceIte]; exact h47
  have k48 : w2 48 = ai 40 fi := by rw [hk 48 (by unfold mfr; omega)]; simp only [cx_up, Nat.reduceEqDiff, reduceIte]; exact h48
  have k49 : w2 49 = ai 40 nw := by rw [hk 49 (by unfold mfr; omega)]; simp only [cx_up, Nat.reduceEqDiff, reduceIte]; exact h49
  have k50 : w2 50 = ai 40 dr := by rw [hk 50 (by unfold mfr; omega)]; simp only [cx_up, Nat.reduceEqDiff, reduceIte]; exact h50
  simp (decide := true) only [BmM_function, g45', EV, EW, CT, ev_o, ev_is, ev_gd, List.length_cons, List.length_nil, Nat.reduceLT, Nat.reduceAdd, Nat.reduceEqDiff, Nat.reduceLeDiff, Int32.reduceLT, Int32.reduceLE, reduceIte, true_and, and_true, true_or, or_true, not_true_eq_false, not_false_eq_true, false_imp_iff, true_imp_iff, implies_true]
  refine cx_cs1 2 0 0 (by decide) (c_M_newNet (N := nc) hnc g45' k46 k47 k48 k49 k50) fun r w3 q => ?_
  obtain ⟨rfl, f45, f46, f47, f48, f49, f50, fk⟩ := q
  simp (decide := true) only [BmM_function, EV, EW, CT, ev_o, ev_is, ev_gd, List.length_cons, List.length_nil, Nat.reduceLT, Nat.reduceAdd, Nat.reduceEqDiff, Nat.reduceLeDiff, Int32.reduceLT, Int32.reduceLE, reduceIte, true_and, and_true, true_or, or_true, not_true_eq_false, not_false_eq_true, false_imp_iff, true_imp_iff, implies_true]
  refine ⟨f45, f46, f47, f48, f49, f50, ?_, ?_, ?_, ?_, ?_, ?_, ?_, ⟨no2, ?_, hno⟩, fun k hk2 => ?_⟩
  · rw [fk 51 (by omega), hk 51 (by unfold mfr; omega)]; simp only [cx_up, Nat.reduceEqDiff, reduceIte]
  · rw [fk 52 (by omega), hk 52 (by unfold mfr; omega)]; simp only [cx_up, Nat.reduceEqDiff, reduceIte]
  · rw [fk 53 (by omega), hk 53 (by unfold mfr; omega)]; simp only [cx_up, Nat.reduceEqDiff, reduceIte]
  · rw [fk 54 (by omega), hk 54 (by unfold mfr; omega)]; simp only [cx_up, Nat.reduceEqDiff, reduceIte]
  · rw [fk 56 (by omega)]; exact g56
  · rw [fk 57 (by omega)]; exact g57
  · rw [fk 58 (by omega)]; exact g58
  · rw [fk 59 (by omega)]; exact g59
  · rw [fk k (by omega), hk k (by unfold mfr; omega)]
    simp (disch := omega) only [cx_up, if_neg]
set_option maxHeartbeats 4000000 in
theorem c_M_function3_full {w : cx_W} {nc n t i0 i1 i2 : Nat} {x1 x2 x4 x5 x6 x7 x8 x9 : Int32} (hi0 : i0 < nc) (hi1 : i1 < nc) (hi2 : i2 < nc) (h45 : w 45 = oM (nI nc) x1 x2 (nI n) x4 x5 x6 x7 x8 x9) (hnc : nc ≤ 40) (hn : n ≤ 48) (ht0 : 0 < t) (ht : t < 255) (hf : nc = 40 ∨ 32 < n) : cx_MC mM_function 12 0 0 [.ref 45, .int (nI i0), .int (nI i1), .int (nI i2), .int (nI t)] w 87 (fun r w2 => r = some (.int (-2)) ∧ w2 = w) := by
  have T1 : (nI t ≤ 0) = False := eq_false (Int32.not_le.mpr (nI_lt (a := 0) ht0 (by omega)))
  have T2 : (255 ≤ nI t) = False := eq_false (Int32.not_le.mpr (nI_lt (b := 255) ht (by omega)))
  have T3 : (nI t < 255) = True := eq_true (nI_lt (b := 255) ht (by omega))
  have ai0 : (nI i0 < 0) = False := eq_false (nI_pos (by omega))
  have bi0 : (nI nc ≤ nI i0) = False := (lek (a := i0) (c := nc) (x := nI nc) rfl (by omega) (by omega)).trans (eq_false (by omega))
  have ei0 : (nI i0 = -1) = False := eq_false fun e => (nI_pos (n := i0) (by omega)) (by rw [e]; decide)
  have ai1 : (nI i1 < 0) = False := eq_false (nI_pos (by omega))
  have bi1 : (nI nc ≤ nI i1) = False := (lek (a := i1) (c := nc) (x := nI nc) rfl (by omega) (by omega)).trans (eq_false (by omega))
  have ei1 : (nI i1 = -1) = False := eq_false fun e => (nI_pos (n := i1) (by omega)) (by rw [e]; decide)
  have ai2 : (nI i2 < 0) = False := eq_false (nI_pos (by omega))
  have bi2 : (nI nc ≤ nI i2) = False := (lek (a := i2) (c := nc) (x := nI nc) rfl (by omega) (by omega)).trans (eq_false (by omega))
  have ei2 : (nI i2 = -1) = False := eq_false fun e => (nI_pos (n := i2) (by omega)) (by rw [e]; decide)
  refine cx_met 200 mM_function_ok rfl ?_
  show cx_vc 200 none mM_function 12 0 0 _ _ 0 [some (.ref 45), some (.int (nI i0)), some (.int (nI i1)), some (.int (nI i2)), some (.int (nI t)), none, none] [] w (87, 0, 0)
  have e1 := lek (a := nc) (c := 40) (x := 40) rfl (by omega) (by decide)
  by_cases q : nc = 40
  · have E1 := e1.trans (eq_true (by omega))
    simp (decide := true) only [BmM_function, BmM_isNet, h45, ai0, bi0, ei0, ai1, bi1, ei1, ai2, bi2, ei2, T1, T2, T3, E1, EV, EW, CT, ev_o, ev_is, ev_gd, List.length_cons, List.length_nil, Nat.reduceLT, Nat.reduceAdd, Nat.reduceEqDiff, Nat.reduceLeDiff, Int32.reduceLT, Int32.reduceLE, reduceIte, true_and, and_true, true_or, or_true, not_true_eq_false, not_false_eq_true, false_imp_iff, true_imp_iff, implies_true]
  · have E1 := e1.trans (eq_false (by omega))
    have E2 : (nI n ≤ 32) = False := eq_false (Int32.not_le.mpr (nI_lt (a := 32) (by omega) (by omega)))
    simp (decide := true) only [BmM_function, BmM_isNet, h45, ai0, bi0, ei0, ai1, bi1, ei1, ai2, bi2, ei2, T1, T2, T3, E1, E2, EV, EW, CT, ev_o, ev_is, ev_gd, List.length_cons, List.length_nil, Nat.reduceLT, Nat.reduceAdd, Nat.reduceEqDiff, Nat.reduceLeDiff, Int32.reduceLT, Int32.reduceLE, reduceIte, true_and, and_true, true_or, or_true, not_true_eq_false, not_false_eq_true, false_imp_iff, true_imp_iff, implies_true]
set_option maxHeartbeats 4000000 in
theorem c_M_function3 {w : cx_W} {G : Gr} {nc t : Nat} {x1 x2 x4 x5 x6 x7 x8 x9 : Int32} {i0 i1 i2 : Nat} {so na fi nw dr aA aB aC tO no : Nat → Int32} (hi0 : i0 < nc) (hi1 : i1 < nc) (hi2 : i2 < nc) (h45 : w 45 = oM (nI nc) x1 x2 (nI G.1) x4 x5 x6 x7 x8 x9) (h46 : w 46 = ai 40 so) (h47 : w 47 = ai 40 na) (h48 : w 48 = ai 40 fi) (h49 : w 49 = ai 40 nw) (h50 : w 50 = ai 40 dr) (h51 : w 51 = ai 40 aA) (h52 : w 52 = ai 40 aB) (h53 : w 53 = ai 40 aC) (h54 : w 54 = ai 40 tO) (h56 : w 56 = ai 48 G.2.1) (h57 : w 57 = ai 48 G.2.2.1) (h58 : w 58 = ai 48 G.2.2.2) (h59 : w 59 = ai 48 no) (hW : WFG 3 2 G) (hnc : nc < 40) (hn : G.1 ≤ 32) (hzi0 : isN G.1 (na i0)) (hzi1 : isN G.1 (na i1)) (hzi2 : isN G.1 (na i2)) (ht0 : 0 < t) (ht : t < 255) :
    cx_MC mM_function 12 0 0 [.ref 45, .int (nI i0), .int (nI i1), .int (nI i2), .int (nI t)] w 87 (fun r w2 => r = some (.int (nI nc)) ∧ w2 45 = oM (nI (nc + 1)) x1 x2 (nI (tab3 3 2 G (na i0) (na i1) (na i2) t).2.1) x4 x5 0 x7 x8 x9 ∧ w2 46 = ai 40 (upd so nc 2) ∧ w2 47 = ai 40 (upd na nc (tab3 3 2 G (na i0) (na i1) (na i2) t).1) ∧ w2 48 = ai 40 (upd fi nc 0) ∧ w2 49 = ai 40 (fun j => if j < nc + 1 then upd fi nc 0 j else nw j) ∧ w2 50 = ai 40 (upd dr nc (-1)) ∧ w2 51 = ai 40 (upd aA nc (nI i0)) ∧ w2 52 = ai 40 (upd aB nc (nI i1)) ∧ w2 53 = ai 40 (upd aC nc (nI i2)) ∧ w2 54 = ai 40 (upd tO nc (nI t)) ∧ w2 56 = ai 48 (tab3 3 2 G (na i0) (na i1) (na i2) t).2.2.1 ∧ w2 57 = ai 48 (tab3 3 2 G (na i0) (na i1) (na i2) t).2.2.2.1 ∧ w2 58 = ai 48 (tab3 3 2 G (na i0) (na i1) (na i2) t).2.2.2.2 ∧ (∃ no2, w2 59 = ai 48 no2 ∧ ∀ j, j < G.1 → no2 j = no j) ∧ ∀ k, (k < 45 ∨ 59 < k) ∨ k = 55 → w2 k = w k) := by
  have T1 : (nI t ≤ 0) = False := eq_false (Int32.not_le.mpr (nI_lt (a := 0) ht0 (by omega)))
  have T2 : (255 ≤ nI t) = False := eq_false (Int32.not_le.mpr (nI_lt (b := 255) ht (by omega)))
  have T3 : (nI t < 255) = True := eq_true (nI_lt (b := 255) ht (by omega))
  have ai0 : (nI i0 < 0) = False := eq_false (nI_pos (by omega))
  have bi0 : (nI nc ≤ nI i0) = False := (lek (a := i0) (c := nc) (x := nI nc) rfl (by omega) (by omega)).trans (eq_false (by omega))
  have ei0 : (nI i0 = -1) = False := eq_false fun e => (nI_pos (n := i0) (by omega)) (by rw [e]; decide)
  have ai1 : (nI i1 < 0) = False := eq_false (nI_pos (by omega))
  have bi1 : (nI nc ≤ nI i1) = False := (lek (a := i1) (c := nc) (x := nI nc) rfl (by omega) (by omega)).trans (eq_false (by omega))
  have ei1 : (nI i1 = -1) = False := eq_false fun e => (nI_pos (n := i1) (by omega)) (by rw [e]; decide)
  have ai2 : (nI i2 < 0) = False := eq_false (nI_pos (by omega))
  have bi2 : (nI nc ≤ nI i2) = False := (lek (a := i2) (c := nc) (x := nI nc) rfl (by omega) (by omega)).trans (eq_false (by omega))
  have ei2 : (nI i2 = -1) = False := eq_false fun e => (nI_pos (n := i2) (by omega)) (by rw [e]; decide)
  have E1 := (lek (a := nc) (c := 40) (x := 40) rfl (by omega) (by decide)).trans (eq_false (by omega))
  have E2 : (nI G.1 ≤ 32) = True := eq_true (nI_le (b := 32) hn (by decide))
  have v1 : vp_in (nI nc) 40 := nI_in hnc (by decide)
  refine cx_met 200 mM_function_ok rfl ?_
  show cx_vc 200 none mM_function 12 0 0 _ _ 0 [some (.ref 45), some (.int (nI i0)), some (.int (nI i1)), some (.int (nI i2)), some (.int (nI t)), none, none] [] w (87, 0, 0)
  simp (decide := true) only [BmM_function, BmM_isNet, h45, h51, h52, h53, h54, ai0, bi0, ei0, ai1, bi1, ei1, ai2, bi2, ei2, T1, T2, T3, E1, E2, v1, nI_clamp (n := nc) (by omega), EV, EW, CT, ev_o, ev_is, ev_gd, List.length_cons, List.length_nil, Nat.reduceLT, Nat.reduceAdd, Nat.reduceEqDiff, Nat.reduceLeDiff, Int32.reduceLT, Int32.reduceLE, reduceIte, true_and, and_true, true_or, or_true, not_true_eq_false, not_false_eq_true, false_imp_iff, true_imp_iff, implies_true]
  refine cx_cs1 7 0 0 (by decide) (c_M_over3 (x := [nI nc, x1, x2, x4, x5, x6, x7, x8, x9]) (G := G) (no := no) (na := na) ⟨by simp only [cx_up, Nat.reduceEqDiff, reduceIte]; exact h45, by simp only [cx_up, Nat.reduceEqDiff, reduceIte]; exact h56, by simp only [cx_up, Nat.reduceEqDiff, reduceIte]; exact h57, by simp only [cx_up, Nat.reduceEqDiff, reduceIte]; exact h58, by simp only [cx_up, Nat.reduceEqDiff, reduceIte]; exact h59⟩ hW (by omega) (by simp only [cx_up, Nat.reduceEqDiff, reduceIte]; exact h47) (by omega) (by omega) (by omega) hzi0 hzi1 hzi2 ht0 ht) fun r w2 q => ?_
  obtain ⟨rfl, ⟨no2, ⟨g45, g56, g57, g58, g59⟩, hno⟩, hk⟩ := q
  have g45' : w2 45 = oM (nI nc) x1 x2 (nI (tab3 3 2 G (na i0) (na i1) (na i2) t).2.1) x4 x5 x6 x7 x8 x9 := g45
  have k46 : w2 46 = ai 40 so := by rw [hk 46 (by unfold mfr; omega)]; simp only [cx_up, Nat.reduceEqDiff, reduceIte]; exact h46
  have k47 : w2 47 = ai 40 na := by rw [hk 47 (by unfold mfr; omega)]; simp only [cx_up, Nat.reduceEqDiff, reduceIte]; exact h47
  have k48 : w2 48 = ai 40 fi := by rw [hk 48 (by unfold mfr; omega)]; simp only [cx_up, Nat.reduceEqDiff, reduceIte]; exact h48
  have k49 : w2 49 = ai 40 nw := by rw [hk 49 (by unfold mfr; omega)]; simp only [cx_up, Nat.reduceEqDiff, reduceIte]; exact h49
  have k50 : w2 50 = ai 40 dr := by rw [hk 50 (by unfold mfr; omega)]; simp only [cx_up, Nat.reduceEqDiff, reduceIte]; exact h50
  simp (decide := true) only [BmM_function, g45', EV, EW, CT, ev_o, ev_is, ev_gd, List.length_cons, List.length_nil, Nat.reduceLT, Nat.reduceAdd, Nat.reduceEqDiff, Nat.reduceLeDiff, Int32.reduceLT, Int32.reduceLE, reduceIte, true_and, and_true, true_or, or_true, not_true_eq_false, not_false_eq_true, false_imp_iff, true_imp_iff, implies_true]
  refine cx_cs1 2 0 0 (by decide) (c_M_newNet (N := nc) hnc g45' k46 k47 k48 k49 k50) fun r w3 q => ?_
  obtain ⟨rfl, f45, f46, f47, f48, f49, f50, fk⟩ := q
  simp (decide := true) only [BmM_function, EV, EW, CT, ev_o, ev_is, ev_gd, List.length_cons, List.length_nil, Nat.reduceLT, Nat.reduceAdd, Nat.reduceEqDiff, Nat.reduceLeDiff, Int32.reduceLT, Int32.reduceLE, reduceIte, true_and, and_true, true_or, or_true, not_true_eq_false, not_false_eq_true, false_imp_iff, true_imp_iff, implies_true]
  refine ⟨f45, f46, f47, f48, f49, f50, ?_, ?_, ?_, ?_, ?_, ?_, ?_, ⟨no2, ?_, hno⟩, fun k hk2 => ?_⟩
  · rw [fk 51 (by omega), hk 51 (by unfold mfr; omega)]; simp only [cx_up, Nat.reduceEqDiff, reduceIte]
  · rw [fk 52 (by omega), hk 52 (by unfold mfr; omega)]; simp only [cx_up, Nat.reduceEqDiff, reduceIte]
  · rw [fk 53 (by omega), hk 53 (by unfold mfr; omega)]; simp only [cx_up, Nat.reduceEqDiff, reduceIte]
  · rw [fk 54 (by omega), hk 54 (by unfold mfr; omega)]; simp only [cx_up, Nat.reduceEqDiff, reduceIte]
  · rw [fk 56 (by omega)]; exact g56
  · rw [fk 57 (by omega)]; exact g57
  · rw [fk 58 (by omega)]; exact g58
  · rw [fk 59 (by omega)]; exact g59
  · rw [fk k (by omega), hk k (by unfold mfr; omega)]
    simp (disch := omega) only [cx_up, if_neg]
