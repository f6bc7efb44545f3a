/-! Building, the class: function, from outside. Printed by gen_fun2.py. -/
def fOK (nc : Nat) (a b c t : Int32) : Prop := (isNet nc a ∧ b = -1 ∧ c = -1 ∧ 0 < t ∧ t < 3) ∨ (isNet nc a ∧ isNet nc b ∧ c = -1 ∧ 0 < t ∧ t < 15) ∨ (isNet nc a ∧ isNet nc b ∧ isNet nc c ∧ 0 < t ∧ t < 255)
theorem sh_1 : (1 : Int32) <<< (((1 : Int32) <<< ((1 : Int32) &&& 31)) &&& 31) - 1 = 3 := by decide
theorem sh_2 : (1 : Int32) <<< (((1 : Int32) <<< ((2 : Int32) &&& 31)) &&& 31) - 1 = 15 := by decide
theorem sh_3 : (1 : Int32) <<< (((1 : Int32) <<< ((3 : Int32) &&& 31)) &&& 31) - 1 = 255 := by decide
theorem isNet_dec {nc : Nat} {a : Int32} (h : ¬ isNet nc a) : (a < 0) = True ∨ ((a < 0) = False ∧ (nI nc ≤ a) = True) := by
  by_cases q : a < 0
  · exact Or.inl (eq_true q)
  · exact Or.inr ⟨eq_false q, eq_true (Decidable.byContradiction fun q2 => h ⟨q, q2⟩)⟩
set_option maxHeartbeats 4000000 in
theorem c_C_function_bad {w : cx_W} {G : Gr} {m : Int32} {nc ic lc oc : Nat} {ib pb : Int32} {nn nl dv on : Nat → Int32} (a b c t : Int32) (hb : ¬ fOK nc a b c t) (h0 : w 0 = oC m) (hC : CW w nc ic lc oc ib pb nn nl dv on) : cx_MC mC_function 12 0 0 [.ref 0, .int a, .int b, .int c, .int t] w 87 (fun r w2 => r = some (.int (-1)) ∧ w2 = w) := by
  have h6 := hC.1
  refine cx_met 200 mC_function_ok rfl ?_
  show cx_vc 200 none mC_function 12 0 0 _ _ 0 [some (.ref 0), some (.int a), some (.int b), some (.int c), some (.int t), none] [] w (87, 0, 0)
  have one : (1 : Int32) = 1 := rfl
  by_cases A : isNet nc a
  · have a1 := eq_false A.1
    have a2 := eq_false A.2
    by_cases B : b = -1
    · subst B
      by_cases C : c = -1
      · subst C
        by_cases T1 : t ≤ 0
        · have T1' := eq_true T1
          simp (decide := true) only [BmC_function, BmC_isTable, BmCi_countArguments, BmCi_isNet, BmCi_isNetOrNone, BmGr_size, h0, h6, a1, a2, T1', sh_1, sh_2, sh_3, or_false, false_or, or_self, and_false, false_and, EV, EW, CT, ev_o, ev_is, ev_gd, List.length_cons, List.length_nil, Nat.reduceLT, Nat.reduceAdd, Nat.reduceEqDiff, Nat.reduceLeDiff, Int32.reduceLT, Int32.reduceLE, reduceIte, true_and, and_true, true_or, or_true, not_true_eq_false, not_false_eq_true, false_imp_iff, true_imp_iff, implies_true]
        · have T1' := eq_false T1
          have T2 : (3 ≤ t) = True := eq_true (Decidable.byContradiction fun q => hb (Or.inl ⟨A, rfl, rfl, Int32.not_le.mp T1, Int32.not_le.mp q⟩))
          simp (decide := true) only [BmC_function, BmC_isTable, BmCi_countArguments, BmCi_isNet, BmCi_isNetOrNone, BmGr_size, h0, h6, a1, a2, T1', T2, sh_1, sh_2, sh_3, or_false, false_or, or_self, and_false, false_and, EV, EW, CT, ev_o, ev_is, ev_gd, List.length_cons, List.length_nil, Nat.reduceLT, Nat.reduceAdd, Nat.reduceEqDiff, Nat.reduceLeDiff, Int32.reduceLT, Int32.reduceLE, reduceIte, true_and, and_true, true_or, or_true, not_true_eq_false, not_false_eq_true, false_imp_iff, true_imp_iff, implies_true]
      · have C' := eq_false C
        by_cases D : isNet nc c
        · have c1 := eq_false D.1
          have c2 := eq_false D.2
          simp (decide := true) only [BmC_function, BmC_isTable, BmCi_countArguments, BmCi_isNet, BmCi_isNetOrNone, BmGr_size, h0, h6, a1, a2, C', c1, c2, sh_1, sh_2, sh_3, or_false, false_or, or_self, and_false, false_and, EV, EW, CT, ev_o, ev_is, ev_gd, List.length_cons, List.length_nil, Nat.reduceLT, Nat.reduceAdd, Nat.reduceEqDiff, Nat.reduceLeDiff, Int32.reduceLT, Int32.reduceLE, reduceIte, true_and, and_true, true_or, or_true, not_true_eq_false, not_false_eq_true, false_imp_iff, true_imp_iff, implies_true]
        · rcases isNet_dec D with c1 | ⟨c1, c2⟩
          · simp (decide := true) only [BmC_function, BmC_isTable, BmCi_countArguments, BmCi_isNet, BmCi_isNetOrNone, BmGr_size, h0, h6, a1, a2, C', c1, sh_1, sh_2, sh_3, or_false, false_or, or_self, and_false, false_and, EV, EW, CT, ev_o, ev_is, ev_gd, List.length_cons, List.length_nil, Nat.reduceLT, Nat.reduceAdd, Nat.reduceEqDiff, Nat.reduceLeDiff, Int32.reduceLT, Int32.reduceLE, reduceIte, true_and, and_true, true_or, or_true, not_true_eq_false, not_false_eq_true, false_imp_iff, true_imp_iff, implies_true]
          · simp (decide := true) only [BmC_function, BmC_isTable, BmCi_countArguments, BmCi_isNet, BmCi_isNetOrNone, BmGr_size, h0, h6, a1, a2, C', c1, c2, sh_1, sh_2, sh_3, or_false, false_or, or_self, and_false, false_and, EV, EW, CT, ev_o, ev_is, ev_gd, List.length_cons, List.length_nil, Nat.reduceLT, Nat.reduceAdd, Nat.reduceEqDiff, Nat.reduceLeDiff, Int32.reduceLT, Int32.reduceLE, reduceIte, true_and, and_true, true_or, or_true, not_true_eq_false, not_false_eq_true, false_imp_iff, true_imp_iff, implies_true]
    · have B' := eq_false B
      by_cases D : isNet nc b
      · have b1 := eq_false D.1
        have b2 := eq_false D.2
        by_cases C : c = -1
        · subst C
          by_cases T1 : t ≤ 0
          · have T1' := eq_true T1
            simp (decide := true) only [BmC_function, BmC_isTable, BmCi_countArguments, BmCi_isNet, BmCi_isNetOrNone, BmGr_size, h0, h6, a1, a2, B', b1, b2, T1', sh_1, sh_2, sh_3, or_false, false_or, or_self, and_false, false_and, EV, EW, CT, ev_o, ev_is, ev_gd, List.length_cons, List.length_nil, Nat.reduceLT, Nat.reduceAdd, Nat.reduceEqDiff, Nat.reduceLeDiff, Int32.reduceLT, Int32.reduceLE, reduceIte, true_and, and_true, true_or, or_true, not_true_eq_false, not_false_eq_true, false_imp_iff, true_imp_iff, implies_true]
          · have T1' := eq_false T1
            have T2 : (15 ≤ t) = True := eq_true (Decidable.byContradiction fun q => hb (Or.inr (Or.inl ⟨A, D, rfl, Int32.not_le.mp T1, Int32.not_le.mp q⟩)))
            simp (decide := true) only [BmC_function, BmC_isTable, BmCi_countArguments, BmCi_isNet, BmCi_isNetOrNone, BmGr_size, h0, h6, a1, a2, B', b1, b2, T1', T2, sh_1, sh_2, sh_3, or_false, false_or, or_self, and_false, false_and, EV, EW, CT, ev_o, ev_is, ev_gd, List.length_cons, List.length_nil, Nat.reduceLT, Nat.reduceAdd, Nat.reduceEqDiff, Nat.reduceLeDiff, Int32.reduceLT, Int32.reduceLE, reduceIte, true_and, and_true, true_or, or_true, not_true_eq_false, not_false_eq_true, false_imp_iff, true_imp_iff, implies_true]
        · have C' := eq_false C
          by_cases E : isNet nc c
          · have c1 := eq_false E.1
            have c2 := eq_false E.2
            by_cases T1 : t ≤ 0
            · have T1' := eq_true T1
              simp (decide := true) only [BmC_function, BmC_isTable, BmCi_countArguments, BmCi_isNet, BmCi_isNetOrNone, BmGr_size, h0, h6, a1, a2, B', b1, b2, C', c1, c2, T1', sh_1, sh_2, sh_3, or_false, false_or, or_self, and_false, false_and, EV, EW, CT, ev_o, ev_is, ev_gd, List.length_cons, List.length_nil, Nat.reduceLT, Nat.reduceAdd, Nat.reduceEqDiff, Nat.reduceLeDiff, Int32.reduceLT, Int32.reduceLE, reduceIte, true_and, and_true, true_or, or_true, not_true_eq_false, not_false_eq_true, false_imp_iff, true_imp_iff, implies_true]
            · have T1' := eq_false T1
              have T2 : (255 ≤ t) = True := eq_true (Decidable.byContradiction fun q => hb (Or.inr (Or.inr ⟨A, D, E, Int32.not_le.mp T1, Int32.not_le.mp q⟩)))
              simp (decide := true) only [BmC_function, BmC_isTable, BmCi_countArguments, BmCi_isNet, BmCi_isNetOrNone, BmGr_size, h0, h6, a1, a2, B', b1, b2, C', c1, c2, T1', T2, sh_1, sh_2, sh_3, or_false, false_or, or_self, and_false, false_and, EV, EW, CT, ev_o, ev_is, ev_gd, List.length_cons, List.length_nil, Nat.reduceLT, Nat.reduceAdd, Nat.reduceEqDiff, Nat.reduceLeDiff, Int32.reduceLT, Int32.reduceLE, reduceIte, true_and, and_true, true_or, or_true, not_true_eq_false, not_false_eq_true, false_imp_iff, true_imp_iff, implies_true]
          · rcases isNet_dec E with c1 | ⟨c1, c2⟩
            · simp (decide := true) only [BmC_function, BmC_isTable, BmCi_countArguments, BmCi_isNet, BmCi_isNetOrNone, BmGr_size, h0, h6, a1, a2, B', b1, b2, C', c1, sh_1, sh_2, sh_3, or_false, false_or, or_self, and_false, false_and, EV, EW, CT, ev_o, ev_is, ev_gd, List.length_cons, List.length_nil, Nat.reduceLT, Nat.reduceAdd, Nat.reduceEqDiff, Nat.reduceLeDiff, Int32.reduceLT, Int32.reduceLE, reduceIte, true_and, and_true, true_or, or_true, not_true_eq_false, not_false_eq_true, false_imp_iff, true_imp_iff, implies_true]
            · simp (decide := true) only [BmC_function, BmC_isTable, BmCi_countArguments, BmCi_isNet, BmCi_isNetOrNone, BmGr_size, h0, h6, a1, a2, B', b1, b2, C', c1, c2, sh_1, sh_2, sh_3, or_false, false_or, or_self, and_false, false_and, EV, EW, CT, ev_o, ev_is, ev_gd, List.length_cons, List.length_nil, Nat.reduceLT, Nat.reduceAdd, Nat.reduceEqDiff, Nat.reduceLeDiff, Int32.reduceLT, Int32.reduceLE, reduceIte, true_and, and_true, true_or, or_true, not_true_eq_false, not_false_eq_true, false_imp_iff, true_imp_iff, implies_true]
      · rcases isNet_dec D with b1 | ⟨b1, b2⟩
        · simp (decide := true) only [BmC_function, BmC_isTable, BmCi_countArguments, BmCi_isNet, BmCi_isNetOrNone, BmGr_size, h0, h6, a1, a2, B', b1, sh_1, sh_2, sh_3, or_false, false_or, or_self, and_false, false_and, EV, EW, CT, ev_o, ev_is, ev_gd, List.length_cons, List.length_nil, Nat.reduceLT, Nat.reduceAdd, Nat.reduceEqDiff, Nat.reduceLeDiff, Int32.reduceLT, Int32.reduceLE, reduceIte, true_and, and_true, true_or, or_true, not_true_eq_false, not_false_eq_true, false_imp_iff, true_imp_iff, implies_true]
        · simp (decide := true) only [BmC_function, BmC_isTable, BmCi_countArguments, BmCi_isNet, BmCi_isNetOrNone, BmGr_size, h0, h6, a1, a2, B', b1, b2, sh_1, sh_2, sh_3, or_false, false_or, or_self, and_false, false_and, EV, EW, CT, ev_o, ev_is, ev_gd, List.length_cons, List.length_nil, Nat.reduceLT, Nat.reduceAdd, Nat.reduceEqDiff, Nat.reduceLeDiff, Int32.reduceLT, Int32.reduceLE, reduceIte, true_and, and_true, true_or, or_true, not_true_eq_false, not_false_eq_true, false_imp_iff, true_imp_iff, implies_true]
  · rcases isNet_dec A with a1 | ⟨a1, a2⟩
    · simp (decide := true) only [BmC_function, BmC_isTable, BmCi_countArguments, BmCi_isNet, BmCi_isNetOrNone, BmGr_size, h0, h6, a1, sh_1, sh_2, sh_3, or_false, false_or, or_self, and_false, false_and, EV, EW, CT, ev_o, ev_is, ev_gd, List.length_cons, List.length_nil, Nat.reduceLT, Nat.reduceAdd, Nat.reduceEqDiff, Nat.reduceLeDiff, Int32.reduceLT, Int32.reduceLE, reduceIte, true_and, and_true, true_or, or_true, not_true_eq_false, not_false_eq_true, false_imp_iff, true_imp_iff, implies_true]
    · simp (decide := true) only [BmC_function, BmC_isTable, BmCi_countArguments, BmCi_isNet, BmCi_isNetOrNone, BmGr_size, h0, h6, a1, a2, sh_1, sh_2, sh_3, or_false, false_or, or_self, and_false, false_and, EV, EW, CT, ev_o, ev_is, ev_gd, List.length_cons, List.length_nil, Nat.reduceLT, Nat.reduceAdd, Nat.reduceEqDiff, Nat.reduceLeDiff, Int32.reduceLT, Int32.reduceLE, reduceIte, true_and, and_true, true_or, or_true, not_true_eq_false, not_false_eq_true, false_imp_iff, true_imp_iff, implies_true]
set_option maxHeartbeats 4000000 in
theorem c_Ci_addFun1_full {w : cx_W} {G : Gr} {nc ic lc oc : Nat} {ib pb : Int32} {nn nl dv on : Nat → Int32} {t : Nat} (a : Int32) (hG : GW w G) (hn : G.1 ≤ 48) (hC : CW w nc ic lc oc ib pb nn nl dv on) (hnc : nc ≤ 40) (hf : nc = 40 ∨ 32 < G.1) : cx_MC mCi_addFunction 11 0 0 [.ref 6, .int a, .int (-1), .int (-1), .int (nI t)] w 87 (fun r w2 => r = some (.int (-2)) ∧ w2 = w) := by
  have h1 := hG.1
  have h6 := hC.1
  have e1 := eqc (a := nc) (c := 40) (x := 40) rfl (by omega) (by decide)
  refine cx_met 200 mCi_addFunction_ok rfl ?_
  show cx_vc 200 none mCi_addFunction 11 0 0 _ _ 0 [some (.ref 6), some (.int a), some (.int (-1)), some (.int (-1)), some (.int (nI t)), none] [] w (87, 0, 0)
  by_cases q : nc = 40
  · have E1 := e1.trans (eq_true q)
    simp (decide := true) only [BmCi_addFunction, BmGr_size, h1, h6, E1, EV, EW, CT, ev_o, ev_is, ev_gd, List.length_cons, List.length_nil, Nat.reduceLT, Nat.reduceAdd, Nat.reduceEqDiff, Nat.reduceLeDiff, Int32.reduceLT, Int32.reduceLE, reduceIte, true_and, and_true, true_or, or_true, not_true_eq_false, not_false_eq_true, false_imp_iff, true_imp_iff, implies_true]
  · have E1 := e1.trans (eq_false q)
    have E2 : (nI G.1 ≤ 32) = False := eq_false (Int32.not_le.mpr (nI_lt (a := 32) (by omega) (by omega)))
    simp (decide := true) only [BmCi_addFunction, BmGr_size, h1, h6, E1, E2, EV, EW, CT, ev_o, ev_is, ev_gd, List.length_cons, List.length_nil, Nat.reduceLT, Nat.reduceAdd, Nat.reduceEqDiff, Nat.reduceLeDiff, Int32.reduceLT, Int32.reduceLE, reduceIte, true_and, and_true, true_or, or_true, not_true_eq_false, not_false_eq_true, false_imp_iff, true_imp_iff, implies_true]
set_option maxHeartbeats 4000000 in
theorem c_C_function1_full {w : cx_W} {G : Gr} {m : Int32} {nc ic lc oc : Nat} {ib pb : Int32} {nn nl dv on : Nat → Int32} {t : Nat} (a : Int32) (ha : isNet nc a) (ht0 : 0 < t) (ht : t < 3) (h0 : w 0 = oC m) (hG : GW w G) (hn : G.1 ≤ 48) (hC : CW w nc ic lc oc ib pb nn nl dv on) (hnc : nc ≤ 40) (hf : nc = 40 ∨ 32 < G.1) : cx_MC mC_function 12 0 0 [.ref 0, .int a, .int (-1), .int (-1), .int (nI t)] w 87 (fun r w2 => r = some (.int (-2)) ∧ w2 = w) := by
  have h1 := hG.1
  have h6 := hC.1
  have ea := ne_m1 ha
  have a1 := eq_false ha.1
  have a2 := eq_false ha.2
  have T1 : (nI t ≤ 0) = False := eq_false (Int32.not_le.mpr (nI_lt (a := 0) ht0 (by omega)))
  have T2 : (3 ≤ nI t) = False := eq_false (Int32.not_le.mpr (nI_lt (b := 3) ht (by omega)))
  refine cx_met 200 mC_function_ok rfl ?_
  show cx_vc 200 none mC_function 12 0 0 _ _ 0 [some (.ref 0), some (.int a), some (.int (-1)), some (.int (-1)), some (.int (nI t)), none] [] w (87, 0, 0)
  simp (decide := true) only [BmC_function, BmC_isTable, BmCi_countArguments, BmCi_isNet, BmCi_isNetOrNone, BmGr_size, h0, h6, a1, a2, ea, T1, T2, sh_1, sh_2, sh_3, or_false, false_or, or_self, and_false, false_and, EV, EW, CT, ev_o, ev_is, ev_gd, List.length_cons, List.length_nil, Nat.reduceLT, Nat.reduceAdd, Nat.reduceEqDiff, Nat.reduceLeDiff, Int32.reduceLT, Int32.reduceLE, reduceIte, true_and, and_true, true_or, or_true, not_true_eq_false, not_false_eq_true, false_imp_iff, true_imp_iff, implies_true]
  refine cx_cs1 11 0 0 (by decide) (c_Ci_addFun1_full a hG hn hC hnc hf) fun r w2 q => ?_
  obtain ⟨rfl, rfl⟩ := q
  simp (decide := true) only [BmC_function, BmC_afterAdding, h0, sh_1, sh_2, sh_3, or_false, false_or, or_self, and_false, false_and, EV, EW, CT, ev_o, ev_is, ev_gd, List.length_cons, List.length_nil, Nat.reduceLT, Nat.reduceAdd, Nat.reduceEqDiff, Nat.reduceLeDiff, Int32.reduceLT, Int32.reduceLE, reduceIte, true_and, and_true, true_or, or_true, not_true_eq_false, not_false_eq_true, false_imp_iff, true_imp_iff, implies_true]
set_option maxHeartbeats 4000000 in
theorem c_C_function1 {w : cx_W} {G : Gr} {m : Int32} {nc ic lc oc : Nat} {ib pb : Int32} {nn nl dv on : Nat → Int32} {t : Nat} {rw0 : Nat → Int32} (a : Int32) (ha : isNet nc a) (ht0 : 0 < t) (ht : t < 3) (h0 : w 0 = oC m) (hG : GW w G) (hW : WFG 2 3 G) (h11 : w 11 = ai 3 rw0) (hC : CW w nc ic lc oc ib pb nn nl dv on) (hnc : nc < 40) (hn : G.1 ≤ 32) (hza : isN G.1 (nn a.toNatClampNeg)) : cx_MC mC_function 12 0 0 [.ref 0, .int a, .int (-1), .int (-1), .int (nI t)] w 87 (fun r w2 => r = some (.int (nI nc)) ∧ w2 0 = oC 0 ∧ GW w2 (tab1 2 3 G (nn a.toNatClampNeg) t).2 ∧ (∃ rw2, w2 11 = ai 3 rw2) ∧ CW w2 (nc + 1) ic lc oc ib ib (upd nn nc (tab1 2 3 G (nn a.toNatClampNeg) t).1) (upd nl nc (-1)) dv on ∧ ∀ k, k = 5 ∨ 11 < k → w2 k = w k) := by
  have h1 := hG.1
  have h6 := hC.1
  have ea := ne_m1 ha
  have a1 := eq_false ha.1
  have a2 := eq_false ha.2
  have T1 : (nI t ≤ 0) = False := eq_false (Int32.not_le.mpr (nI_lt (a := 0) ht0 (by omega)))
  have T2 : (3 ≤ nI t) = False := eq_false (Int32.not_le.mpr (nI_lt (b := 3) ht (by omega)))
  have p1 : (nI nc < 0) = False := eq_false (nI_pos (by omega))
  refine cx_met 200 mC_function_ok rfl ?_
  show cx_vc 200 none mC_function 12 0 0 _ _ 0 [some (.ref 0), some (.int a), some (.int (-1)), some (.int (-1)), some (.int (nI t)), none] [] w (87, 0, 0)
  simp (decide := true) only [BmC_function, BmC_isTable, BmCi_countArguments, BmCi_isNet, BmCi_isNetOrNone, BmGr_size, h0, h6, a1, a2, ea, T1, T2, sh_1, sh_2, sh_3, or_false, false_or, or_self, and_false, false_and, EV, EW, CT, ev_o, ev_is, ev_gd, List.length_cons, List.length_nil, Nat.reduceLT, Nat.reduceAdd, Nat.reduceEqDiff, Nat.reduceLeDiff, Int32.reduceLT, Int32.reduceLE, reduceIte, true_and, and_true, true_or, or_true, not_true_eq_false, not_false_eq_true, false_imp_iff, true_imp_iff, implies_true]
  refine cx_cs1 11 0 0 (by decide) (c_Ci_addFun1 a ha hG hW h11 hC hnc hn hza ht0 ht) fun r w2 q => ?_
  obtain ⟨rfl, ⟨g1, g2, g3, g4⟩, ⟨rw2, g11⟩, ⟨g6, g7, g8, g9, g10⟩, gk⟩ := q
  have k0 : w2 0 = oC m := (gk 0 (by omega)).trans h0
  simp (decide := true) only [BmC_function, BmC_afterAdding, BmCi_restart, k0, g6, p1, sh_1, sh_2, sh_3, or_false, false_or, or_self, and_false, false_and, EV, EW, CT, ev_o, ev_is, ev_gd, List.length_cons, List.length_nil, Nat.reduceLT, Nat.reduceAdd, Nat.reduceEqDiff, Nat.reduceLeDiff, Int32.reduceLT, Int32.reduceLE, reduceIte, true_and, and_true, true_or, or_true, not_true_eq_false, not_false_eq_true, false_imp_iff, true_imp_iff, implies_true]
  refine ⟨⟨?_, ?_, ?_, ?_⟩, ⟨rw2, ?_⟩, ⟨?_, ?_, ?_, ?_, ?_⟩, fun k hk => ?_⟩
  · simp only [cx_up, Nat.reduceEqDiff, reduceIte]; exact g1
  · simp only [cx_up, Nat.reduceEqDiff, reduceIte]; exact g2
  · simp only [cx_up, Nat.reduceEqDiff, reduceIte]; exact g3
  · simp only [cx_up, Nat.reduceEqDiff, reduceIte]; exact g4
  · first | exact g11 | (simp only [cx_up, Nat.reduceEqDiff, reduceIte]; exact g11)
  · first | done | rfl | simp only [cx_up, Nat.reduceEqDiff, reduceIte]
  · simp only [cx_up, Nat.reduceEqDiff, reduceIte]; exact g7
  · simp only [cx_up, Nat.reduceEqDiff, reduceIte]; exact g8
  · simp only [cx_up, Nat.reduceEqDiff, reduceIte]; exact g9
  · simp only [cx_up, Nat.reduceEqDiff, reduceIte]; exact g10
  · simp (disch := omega) only [cx_up, if_neg]
    exact gk k (by omega)
set_option maxHeartbeats 4000000 in
theorem c_Ci_addFun2_full {w : cx_W} {G : Gr} {nc ic lc oc : Nat} {ib pb : Int32} {nn nl dv on : Nat → Int32} {t : Nat} (a b : Int32) (hG : GW w G) (hn : G.1 ≤ 48) (hC : CW w nc ic lc oc ib pb nn nl dv on) (hnc : nc ≤ 40) (hf : nc = 40 ∨ 32 < G.1) : cx_MC mCi_addFunction 11 0 0 [.ref 6, .int a, .int b, .int (-1), .int (nI t)] w 87 (fun r w2 => r = some (.int (-2)) ∧ w2 = w) := by
  have h1 := hG.1
  have h6 := hC.1
  have e1 := eqc (a := nc) (c := 40) (x := 40) rfl (by omega) (by decide)
  refine cx_met 200 mCi_addFunction_ok rfl ?_
  show cx_vc 200 none mCi_addFunction 11 0 0 _ _ 0 [some (.ref 6), some (.int a), some (.int b), some (.int (-1)), some (.int (nI t)), none] [] w (87, 0, 0)
  by_cases q : nc = 40
  · have E1 := e1.trans (eq_true q)
    simp (decide := true) only [BmCi_addFunction, BmGr_size, h1, h6, E1, EV, EW, CT, ev_o, ev_is, ev_gd, List.length_cons, List.length_nil, Nat.reduceLT, Nat.reduceAdd, Nat.reduceEqDiff, Nat.reduceLeDiff, Int32.reduceLT, Int32.reduceLE, reduceIte, true_and, and_true, true_or, or_true, not_true_eq_false, not_false_eq_true, false_imp_iff, true_imp_iff, implies_true]
  · have E1 := e1.trans (eq_false q)
    have E2 : (nI G.1 ≤ 32) = False := eq_false (Int32.not_le.mpr (nI_lt (a := 32) (by omega) (by omega)))
    simp (decide := true) only [BmCi_addFunction, BmGr_size, h1, h6, E1, E2, EV, EW, CT, ev_o, ev_is, ev_gd, List.length_cons, List.length_nil, Nat.reduceLT, Nat.reduceAdd, Nat.reduceEqDiff, Nat.reduceLeDiff, Int32.reduceLT, Int32.reduceLE, reduceIte, true_and, and_true, true_or, or_true, not_true_eq_false, not_false_eq_true, false_imp_iff, true_imp_iff, implies_true]
set_option maxHeartbeats 4000000 in
theorem c_C_function2_full {w : cx_W} {G : Gr} {m : Int32} {nc ic lc oc : Nat} {ib pb : Int32} {nn nl dv on : Nat → Int32} {t : Nat} (a b : Int32) (ha : isNet nc a) (hb : isNet nc b) (ht0 : 0 < t) (ht : t < 15) (h0 : w 0 = oC m) (hG : GW w G) (hn : G.1 ≤ 48) (hC : CW w nc ic lc oc ib pb nn nl dv on) (hnc : nc ≤ 40) (hf : nc = 40 ∨ 32 < G.1) : cx_MC mC_function 12 0 0 [.ref 0, .int a, .int b, .int (-1), .int (nI t)] w 87 (fun r w2 => r = some (.int (-2)) ∧ w2 = w) := by
  have h1 := hG.1
  have h6 := hC.1
  have ea := ne_m1 ha
  have a1 := eq_false ha.1
  have a2 := eq_false ha.2
  have eb := ne_m1 hb
  have b1 := eq_false hb.1
  have b2 := eq_false hb.2
  have T1 : (nI t ≤ 0) = False := eq_false (Int32.not_le.mpr (nI_lt (a := 0) ht0 (by omega)))
  have T2 : (15 ≤ nI t) = False := eq_false (Int32.not_le.mpr (nI_lt (b := 15) ht (by omega)))
  refine cx_met 200 mC_function_ok rfl ?_
  show cx_vc 200 none mC_function 12 0 0 _ _ 0 [some (.ref 0), some (.int a), some (.int b), some (.int (-1)), some (.int (nI t)), none] [] w (87, 0, 0)
  simp (decide := true) only [BmC_function, BmC_isTable, BmCi_countArguments, BmCi_isNet, BmCi_isNetOrNone, BmGr_size, h0, h6, a1, a2, ea, b1, b2, eb, T1, T2, sh_1, sh_2, sh_3, or_false, false_or, or_self, and_false, false_and, EV, EW, CT, ev_o, ev_is, ev_gd, List.length_cons, List.length_nil, Nat.reduceLT, Nat.reduceAdd, Nat.reduceEqDiff, Nat.reduceLeDiff, Int32.reduceLT, Int32.reduceLE, reduceIte, true_and, and_true, true_or, or_true, not_true_eq_false, not_false_eq_true, false_imp_iff, true_imp_iff, implies_true]
  refine cx_cs1 11 0 0 (by decide) (c_Ci_addFun2_full a b hG hn hC hnc hf) fun r w2 q => ?_
  obtain ⟨rfl, rfl⟩ := q
  simp (decide := true) only [BmC_function, BmC_afterAdding, h0, sh_1, sh_2, sh_3, or_false, false_or, or_self, and_false, false_and, EV, EW, CT, ev_o, ev_is, ev_gd, List.length_cons, List.length_nil, Nat.reduceLT, Nat.reduceAdd, Nat.reduceEqDiff, Nat.reduceLeDiff, Int32.reduceLT, Int32.reduceLE, reduceIte, true_and, and_true, true_or, or_true, not_true_eq_false, not_false_eq_true, false_imp_iff, true_imp_iff, implies_true]
set_option maxHeartbeats 4000000 in
theorem c_C_function2 {w : cx_W} {G : Gr} {m : Int32} {nc ic lc oc : Nat} {ib pb : Int32} {nn nl dv on : Nat → Int32} {t : Nat} {rw0 : Nat → Int32} (a b : Int32) (ha : isNet nc a) (hb : isNet nc b) (ht0 : 0 < t) (ht : t < 15) (h0 : w 0 = oC m) (hG : GW w G) (hW : WFG 2 3 G) (h11 : w 11 = ai 3 rw0) (hC : CW w nc ic lc oc ib pb nn nl dv on) (hnc : nc < 40) (hn : G.1 ≤ 32) (hza : isN G.1 (nn a.toNatClampNeg)) (hzb : isN G.1 (nn b.toNatClampNeg)) : cx_MC mC_function 12 0 0 [.ref 0, .int a, .int b, .int (-1), .int (nI t)] w 87 (fun r w2 => r = some (.int (nI nc)) ∧ w2 0 = oC 0 ∧ GW w2 (tab2 2 3 G (nn a.toNatClampNeg) (nn b.toNatClampNeg) t).2 ∧ (∃ rw2, w2 11 = ai 3 rw2) ∧ CW w2 (nc + 1) ic lc oc ib ib (upd nn nc (tab2 2 3 G (nn a.toNatClampNeg) (nn b.toNatClampNeg) t).1) (upd nl nc (-1)) dv on ∧ ∀ k, k = 5 ∨ 11 < k → w2 k = w k) := by
  have h1 := hG.1
  have h6 := hC.1
  have ea := ne_m1 ha
  have a1 := eq_false ha.1
  have a2 := eq_false ha.2
  have eb := ne_m1 hb
  have b1 := eq_false hb.1
  have b2 := eq_false hb.2
  have T1 : (nI t ≤ 0) = False := eq_false (Int32.not_le.mpr (nI_lt (a := 0) ht0 (by omega)))
  have T2 : (15 ≤ nI t) = False := eq_false (Int32.not_le.mpr (nI_lt (b := 15) ht (by omega)))
  have p1 : (nI nc < 0) = False := eq_false (nI_pos (by omega))
  refine cx_met 200 mC_function_ok rfl ?_
  show cx_vc 200 none mC_function 12 0 0 _ _ 0 [some (.ref 0), some (.int a), some (.int b), some (.int (-1)), some (.int (nI t)), none] [] w (87, 0, 0)
  simp (decide := true) only [BmC_function, BmC_isTable, BmCi_countArguments, BmCi_isNet, BmCi_isNetOrNone, BmGr_size, h0, h6, a1, a2, ea, b1, b2, eb, T1, T2, sh_1, sh_2, sh_3, or_false, false_or, or_self, and_false, false_and, EV, EW, CT, ev_o, ev_is, ev_gd, List.length_cons, List.length_nil, Nat.reduceLT, Nat.reduceAdd, Nat.reduceEqDiff, Nat.reduceLeDiff, Int32.reduceLT, Int32.reduceLE, reduceIte, true_and, and_true, true_or, or_true, not_true_eq_false, not_false_eq_true, false_imp_iff, true_imp_iff, implies_true]
  refine cx_cs1 11 0 0 (by decide) (c_Ci_addFun2 a b ha hb hG hW h11 hC hnc hn hza hzb ht0 ht) fun r w2 q => ?_
  obtain ⟨rfl, ⟨g1, g2, g3, g4⟩, ⟨rw2, g11⟩, ⟨g6, g7, g8, g9, g10⟩, gk⟩ := q
  have k0 : w2 0 = oC m := (gk 0 (by omega)).trans h0
  simp (decide := true) only [BmC_function, BmC_afterAdding, BmCi_restart, k0, g6, p1, sh_1, sh_2, sh_3, or_false, false_or, or_self, and_false, false_and, EV, EW, CT, ev_o, ev_is, ev_gd, List.length_cons, List.length_nil, Nat.reduceLT, Nat.reduceAdd, Nat.reduceEqDiff, Nat.reduceLeDiff, Int32.reduceLT, Int32.reduceLE, reduceIte, true_and, and_true, true_or, or_true, not_true_eq_false, not_false_eq_true, false_imp_iff, true_imp_iff, implies_true]
  refine ⟨⟨?_, ?_, ?_, ?_⟩, ⟨rw2, ?_⟩, ⟨?_, ?_, ?_, ?_, ?_⟩, fun k hk => ?_⟩
  · simp only [cx_up, Nat.reduceEqDiff, reduceIte]; exact g1
  · simp only [cx_up, Nat.reduceEqDiff, reduceIte]; exact g2
  · simp only [cx_up, Nat.reduceEqDiff, reduceIte]; exact g3
  · simp only [cx_up, Nat.reduceEqDiff, reduceIte]; exact g4
  · first | exact g11 | (simp only [cx_up, Nat.reduceEqDiff, reduceIte]; exact g11)
  · first | done | rfl | simp only [cx_up, Nat.reduceEqDiff, reduceIte]
  · simp only [cx_up, Nat.reduceEqDiff, reduceIte]; exact g7
  · simp only [cx_up, Nat.reduceEqDiff, reduceIte]; exact g8
  · simp only [cx_up, Nat.reduceEqDiff, reduceIte]; exact g9
  · simp only [cx_up, Nat.reduceEqDiff, reduceIte]; exact g10
  · simp (disch := omega) only [cx_up, if_neg]
    exact gk k (by omega)
set_option maxHeartbeats 4000000 in
theorem c_Ci_addFun3_full {w : cx_W} {G : Gr} {nc ic lc oc : Nat} {ib pb : Int32} {nn nl dv on : Nat → Int32} {t : Nat} (a b c : Int32) (hG : GW w G) (hn : G.1 ≤ 48) (hC : CW w nc ic lc oc ib pb nn nl dv on) (hnc : nc ≤ 40) (hf : nc = 40 ∨ 32 < G.1) : cx_MC mCi_addFunction 11 0 0 [.ref 6, .int a, .int b, .int c, .int (nI t)] w 87 (fun r w2 => r = some (.int (-2)) ∧ w2 = w) := by
  have h1 := hG.1
  have h6 := hC.1
  have e1 := eqc (a := nc) (c := 40) (x := 40) rfl (by omega) (by decide)
  refine cx_met 200 mCi_addFunction_ok rfl ?_
  show cx_vc 200 none mCi_addFunction 11 0 0 _ _ 0 [some (.ref 6), some (.int a), some (.int b), some (.int c), some (.int (nI t)), none] [] w (87, 0, 0)
  by_cases q : nc = 40
  · have E1 := e1.trans (eq_true q)
    simp (decide := true) only [BmCi_addFunction, BmGr_size, h1, h6, E1, EV, EW, CT, ev_o, ev_is, ev_gd, List.length_cons, List.length_nil, Nat.reduceLT, Nat.reduceAdd, Nat.reduceEqDiff, Nat.reduceLeDiff, Int32.reduceLT, Int32.reduceLE, reduceIte, true_and, and_true, true_or, or_true, not_true_eq_false, not_false_eq_true, false_imp_iff, true_imp_iff, implies_true]
  · have E1 := e1.trans (eq_false q)
    have E2 : (nI G.1 ≤ 32) = False := eq_false (Int32.not_le.mpr (nI_lt (a := 32) (by omega) (by omega)))
    simp (decide := true) only [BmCi_addFunction, BmGr_size, h1, h6, E1, E2, EV, EW, CT, ev_o, ev_is, ev_gd, List.length_cons, List.length_nil, Nat.reduceLT, Nat.reduceAdd, Nat.reduceEqDiff, Nat.reduceLeDiff, Int32.reduceLT, Int32.reduceLE, reduceIte, true_and, and_true, true_or, or_true, not_true_eq_false, not_false_eq_true, false_imp_iff, true_imp_iff, implies_true]
set_option maxHeartbeats 4000000 in
theorem c_C_function3_full {w : cx_W} {G : Gr} {m : Int32} {nc ic lc oc : Nat} {ib pb : Int32} {nn nl dv on : Nat → Int32} {t : Nat} (a b c : Int32) (ha : isNet nc a) (hb : isNet nc b) (hc : isNet nc c) (ht0 : 0 < t) (ht : t < 255) (h0 : w 0 = oC m) (hG : GW w G) (hn : G.1 ≤ 48) (hC : CW w nc ic lc oc ib pb nn nl dv on) (hnc : nc ≤ 40) (hf : nc = 40 ∨ 32 < G.1) : cx_MC mC_function 12 0 0 [.ref 0, .int a, .int b, .int c, .int (nI t)] w 87 (fun r w2 => r = some (.int (-2)) ∧ w2 = w) := by
  have h1 := hG.1
  have h6 := hC.1
  have ea := ne_m1 ha
  have a1 := eq_false ha.1
  have a2 := eq_false ha.2
  have eb := ne_m1 hb
  have b1 := eq_false hb.1
  have b2 := eq_false hb.2
  have ec := ne_m1 hc
  have c1 := eq_false hc.1
  have c2 := eq_false hc.2
  have T1 : (nI t ≤ 0) = False := eq_false (Int32.not_le.mpr (nI_lt (a := 0) ht0 (by omega)))
  have T2 : (255 ≤ nI t) = False := eq_false (Int32.not_le.mpr (nI_lt (b := 255) ht (by omega)))
  refine cx_met 200 mC_function_ok rfl ?_
  show cx_vc 200 none mC_function 12 0 0 _ _ 0 [some (.ref 0), some (.int a), some (.int b), some (.int c), some (.int (nI t)), none] [] w (87, 0, 0)
  simp (decide := true) only [BmC_function, BmC_isTable, BmCi_countArguments, BmCi_isNet, BmCi_isNetOrNone, BmGr_size, h0, h6, a1, a2, ea, b1, b2, eb, c1, c2, ec, T1, T2, sh_1, sh_2, sh_3, or_false, false_or, or_self, and_false, false_and, EV, EW, CT, ev_o, ev_is, ev_gd, List.length_cons, List.length_nil, Nat.reduceLT, Nat.reduceAdd, Nat.reduceEqDiff, Nat.reduceLeDiff, Int32.reduceLT, Int32.reduceLE, reduceIte, true_and, and_true, true_or, or_true, not_true_eq_false, not_false_eq_true, false_imp_iff, true_imp_iff, implies_true]
  refine cx_cs1 11 0 0 (by decide) (c_Ci_addFun3_full a b c hG hn hC hnc hf) fun r w2 q => ?_
  obtain ⟨rfl, rfl⟩ := q
  simp (decide := true) only [BmC_function, BmC_afterAdding, h0, sh_1, sh_2, sh_3, or_false, false_or, or_self, and_false, false_and, EV, EW, CT, ev_o, ev_is, ev_gd, List.length_cons, List.length_nil, Nat.reduceLT, Nat.reduceAdd, Nat.reduceEqDiff, Nat.reduceLeDiff, Int32.reduceLT, Int32.reduceLE, reduceIte, true_and, and_true, true_or, or_true, not_true_eq_false, not_false_eq_true, false_imp_iff, true_imp_iff, implies_true]
set_option maxHeartbeats 4000000 in
theorem c_C_function3 {w : cx_W} {G : Gr} {m : Int32} {nc ic lc oc : Nat} {ib pb : Int32} {nn nl dv on : Nat → Int32} {t : Nat} {rw0 : Nat → Int32} (a b c : Int32) (ha : isNet nc a) (hb : isNet nc b) (hc : isNet nc c) (ht0 : 0 < t) (ht : t < 255) (h0 : w 0 = oC m) (hG : GW w G) (hW : WFG 2 3 G) (h11 : w 11 = ai 3 rw0) (hC : CW w nc ic lc oc ib pb nn nl dv on) (hnc : nc < 40) (hn : G.1 ≤ 32) (hza : isN G.1 (nn a.toNatClampNeg)) (hzb : isN G.1 (nn b.toNatClampNeg)) (hzc : isN G.1 (nn c.toNatClampNeg)) : cx_MC mC_function 12 0 0 [.ref 0, .int a, .int b, .int c, .int (nI t)] w 87 (fun r w2 => r = some (.int (nI nc)) ∧ w2 0 = oC 0 ∧ GW w2 (tab3 2 3 G (nn a.toNatClampNeg) (nn b.toNatClampNeg) (nn c.toNatClampNeg) t).2 ∧ (∃ rw2, w2 11 = ai 3 rw2) ∧ CW w2 (nc + 1) ic lc oc ib ib (upd nn nc (tab3 2 3 G (nn a.toNatClampNeg) (nn b.toNatClampNeg) (nn c.toNatClampNeg) t).1) (upd nl nc (-1)) dv on ∧ ∀ k, k = 5 ∨ 11 < k → w2 k = w k) := by
  have h1 := hG.1
  have h6 := hC.1
  have ea := ne_m1 ha
  have a1 := eq_false ha.1
  have a2 := eq_false ha.2
  have eb := ne_m1 hb
  have b1 := eq_false hb.1
  have b2 := eq_false hb.2
  have ec := ne_m1 hc
  have c1 := eq_false hc.1
  have c2 := eq_false hc.2
  have T1 : (nI t ≤ 0) = False := eq_false (Int32.not_le.mpr (nI_lt (a := 0) ht0 (by omega)))
  have T2 : (255 ≤ nI t) = False := eq_false (Int32.not_le.mpr (nI_lt (b := 255) ht (by omega)))
  have p1 : (nI nc < 0) = False := eq_false (nI_pos (by omega))
  refine cx_met 200 mC_function_ok rfl ?_
  show cx_vc 200 none mC_function 12 0 0 _ _ 0 [some (.ref 0), some (.int a), some (.int b), some (.int c), some (.int (nI t)), none] [] w (87, 0, 0)
  simp (decide := true) only [BmC_function, BmC_isTable, BmCi_countArguments, BmCi_isNet, BmCi_isNetOrNone, BmGr_size, h0, h6, a1, a2, ea, b1, b2, eb, c1, c2, ec, T1, T2, sh_1, sh_2, sh_3, or_false, false_or, or_self, and_false, false_and, EV, EW, CT, ev_o, ev_is, ev_gd, List.length_cons, List.length_nil, Nat.reduceLT, Nat.reduceAdd, Nat.reduceEqDiff, Nat.reduceLeDiff, Int32.reduceLT, Int32.reduceLE, reduceIte, true_and, and_true, true_or, or_true, not_true_eq_false, not_false_eq_true, false_imp_iff, true_imp_iff, implies_true]
  refine cx_cs1 11 0 0 (by decide) (c_Ci_addFun3 a b c ha hb hc hG hW h11 hC hnc hn hza hzb hzc ht0 ht) fun r w2 q => ?_
  obtain ⟨rfl, ⟨g1, g2, g3, g4⟩, ⟨rw2, g11⟩, ⟨g6, g7, g8, g9, g10⟩, gk⟩ := q
  have k0 : w2 0 = oC m := (gk 0 (by omega)).trans h0
  simp (decide := true) only [BmC_function, BmC_afterAdding, BmCi_restart, k0, g6, p1, sh_1, sh_2, sh_3, or_false, false_or, or_self, and_false, false_and, EV, EW, CT, ev_o, ev_is, ev_gd, List.length_cons, List.length_nil, Nat.reduceLT, Nat.reduceAdd, Nat.reduceEqDiff, Nat.reduceLeDiff, Int32.reduceLT, Int32.reduceLE, reduceIte, true_and, and_true, true_or, or_true, not_true_eq_false, not_false_eq_true, false_imp_iff, true_imp_iff, implies_true]
  refine ⟨⟨?_, ?_, ?_, ?_⟩, ⟨rw2, ?_⟩, ⟨?_, ?_, ?_, ?_, ?_⟩, fun k hk => ?_⟩
  · simp only [cx_up, Nat.reduceEqDiff, reduceIte]; exact g1
  · simp only [cx_up, Nat.reduceEqDiff, reduceIte]; exact g2
  · simp only [cx_up, Nat.reduceEqDiff, reduceIte]; exact g3
  · simp only [cx_up, Nat.reduceEqDiff, reduceIte]; exact g4
  · first | exact g11 | (simp only [cx_up, Nat.reduceEqDiff, reduceIte]; exact g11)
  · first | done | rfl | simp only [cx_up, Nat.reduceEqDiff, reduceIte]
  · simp only [cx_up, Nat.reduceEqDiff, reduceIte]; exact g7
  · simp only [cx_up, Nat.reduceEqDiff, reduceIte]; exact g8
  · simp only [cx_up, Nat.reduceEqDiff, reduceIte]; exact g9
  · simp only [cx_up, Nat.reduceEqDiff, reduceIte]; exact g10
  · simp (disch := omega) only [cx_up, if_neg]
    exact gk k (by omega)
