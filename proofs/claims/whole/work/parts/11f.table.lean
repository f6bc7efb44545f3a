/-! tableNode of two and of three nets. Printed by gen_table.py. -/
set_option maxHeartbeats 1000000 in
theorem c_Ci_table2 {w : cx_W} {G : Gr} {row : Nat → Int32} {t : Nat} (hG : GW w G) (hW : WFG 2 3 G) (hn : G.1 + 6 ≤ 48) (h11 : w 11 = ai 3 row) (hz0 : isN G.1 (row 0)) (hz1 : isN G.1 (row 1)) (ht0 : 0 < t) (ht : t < 15) :
    cx_MC mCi_tableNode 6 0 0 [.ref 1, .ref 11, .int 2, .int (nI t)] w 87 (GQ w (tab2 2 3 G (row 0) (row 1) t)) := by
  have ne : ¬ (2 : Int32) = 3 := by decide
  have h1 := hG.1
  refine cx_met 120 mCi_tableNode_ok rfl ?_
  show cx_vc 120 none mCi_tableNode 6 0 0 _ _ 0 [some (.ref 1), some (.ref 11), some (.int 2), some (.int (nI t)), none, none, none, none, none, none, none] [] w (87, 0, 0)
  have hmod : t / 4 % 4 = t / 4 := Nat.mod_eq_of_lt (by omega)
  have eE := eqN (a := t % 4) (b := t / 4) (by omega) (by omega)
  have hL := tb2L_grown (t := t) ne hW (by omega) hz0
  have hH := tb2H_grown (t := t) ne hW (by omega) hz0 (by omega)
  by_cases hab : t % 4 = t / 4
  · simp (decide := true) only [BmCi_tableNode, BmCi_isConstant, h1, h11, sl1, sl2, an3, sr2 (d := t) (by omega), hmod, eE, hab, EV, EW, CT, ev_o, ev_is, ev_gd, List.length_cons, List.length_nil, Nat.reduceLT, Nat.reduceAdd, Nat.reduceEqDiff, Nat.reduceLeDiff, Int32.reduceLT, Int32.reduceLE, Int32.reduceSub, Int32.reduceToNatClampNeg, reduceIte, true_and, and_true, true_or, or_true, or_self, or_false, not_true_eq_false, not_false_eq_true, false_imp_iff, true_imp_iff, implies_true]
    have ep : tab2 2 3 G (row 0) (row 1) t = tab1 2 3 G (row 0) (t / 4) := by
      unfold tab2
      rw [if_pos hab, hab]
    rw [ep]
    refine cx_cs1 5 0 0 (by decide) (c_Ci_table1 hG hW (by omega) h11 hz0 (by omega)) fun r w2 q => ?_
    obtain ⟨rfl, hG2, hk2⟩ := q
    simp (decide := true) only [BmCi_tableNode, EV, EW, CT, ev_o, ev_is, ev_gd, List.length_cons, List.length_nil, Nat.reduceLT, Nat.reduceAdd, Nat.reduceEqDiff, Nat.reduceLeDiff, Int32.reduceLT, Int32.reduceLE, Int32.reduceSub, Int32.reduceToNatClampNeg, reduceIte, true_and, and_true, true_or, or_true, or_self, or_false, not_true_eq_false, not_false_eq_true, false_imp_iff, true_imp_iff, implies_true]
    exact ⟨rfl, hG2, hk2⟩
  · have ep : tab2 2 3 G (row 0) (row 1) t = joinN 2 3 (tb2H 2 3 G (row 0) t).2 (row 1) (flg (t % 4) 3) (tb2L 2 3 G (row 0) t).1 (flg (t / 4) 3) (tb2H 2 3 G (row 0) t).1 := by
      unfold tab2
      rw [if_neg hab]
    rw [ep]
    have eL0 : tb2L 2 3 G (row 0) t = if flg (t % 4) 3 = 2 then tab1 2 3 G (row 0) (t % 4) else (0, G) := rfl
    have eH0 : tb2H 2 3 G (row 0) t = if flg (t / 4) 3 = 2 then tab1 2 3 (tb2L 2 3 G (row 0) t).2 (row 0) (t / 4) else (0, (tb2L 2 3 G (row 0) t).2) := rfl
    clear ep
    generalize tb2H 2 3 G (row 0) t = oH at *
    generalize tb2L 2 3 G (row 0) t = oL at *
    have l0 := eqc (a := t % 4) (c := 0) (x := 0) rfl (by omega) (by decide)
    have l1 := eqc (a := t % 4) (c := 3) (x := 3) rfl (by omega) (by decide)
    have g0 := eqc (a := t / 4) (c := 0) (x := 0) rfl (by omega) (by decide)
    have g1 := eqc (a := t / 4) (c := 3) (x := 3) rfl (by omega) (by decide)
    by_cases a0 : t % 4 = 0
    · have b0 : ¬ t / 4 = 0 := by omega
      by_cases b1 : t / 4 = 3
      · have EE : (nI (t % 4) = nI (t / 4)) = False := eE.trans (eq_false hab)
        have L0 : (nI (t % 4) = 0) = True := l0.trans (eq_true a0)
        have L1 : (nI (t % 4) = 3) = False := l1.trans (eq_false (by omega))
        have H0 : (nI (t / 4) = 0) = False := g0.trans (eq_false b0)
        have H1 : (nI (t / 4) = 3) = True := g1.trans (eq_true b1)
        have fl : flg (t % 4) 3 = 0 := by unfold flg; rw [if_pos a0]
        have fh : flg (t / 4) 3 = 1 := by unfold flg; rw [if_neg b0, if_pos b1]
        rw [fl] at hL eL0
        rw [fh] at hH eH0
        have eL : oL = (0, G) := eL0
        have eH : oH = (0, oL.2) := eH0
        clear eL0 eH0
        rw [fl, fh]
        simp (decide := true) only [h1, h11, BmCi_tableNode, BmCi_isConstant, sl1, sl2, an3, sr2 (d := t) (by omega), hmod, EE, L0, L1, H0, H1, vp_in, EV, EW, CT, ev_o, ev_is, ev_gd, List.length_cons, List.length_nil, Nat.reduceLT, Nat.reduceAdd, Nat.reduceEqDiff, Nat.reduceLeDiff, Int32.reduceLT, Int32.reduceLE, Int32.reduceSub, Int32.reduceToNatClampNeg, reduceIte, true_and, and_true, true_or, or_true, or_self, or_false, not_true_eq_false, not_false_eq_true, false_imp_iff, true_imp_iff, implies_true]
        have hG2 : GW w oL.2 := by rw [eL]; exact hG
        have hG3 : GW w oH.2 := by rw [eH]; exact hG2
        refine cx_cs1 4 0 0 (by decide) (c_Ci_joinHalves (lo := 0) (hi := 1) (l := oL.1) (h := oH.1) hG3 hH.1 (by have := hL.2.2.1; have := hH.2.2.1; omega) ((hz1.mono hL.2.1).mono hH.2.1) (Or.inl ⟨rfl, rfl, rfl⟩) (Or.inr (Or.inl ⟨rfl, rfl, rfl⟩))) fun r w4 q => ?_
        obtain ⟨rfl, hG4, hk4⟩ := q
        simp (decide := true) only [BmCi_tableNode, EV, EW, CT, ev_o, ev_is, ev_gd, List.length_cons, List.length_nil, Nat.reduceLT, Nat.reduceAdd, Nat.reduceEqDiff, Nat.reduceLeDiff, Int32.reduceLT, Int32.reduceLE, Int32.reduceSub, Int32.reduceToNatClampNeg, reduceIte, true_and, and_true, true_or, or_true, or_self, or_false, not_true_eq_false, not_false_eq_true, false_imp_iff, true_imp_iff, implies_true]
        exact ⟨rfl, hG4, hk4⟩
      · have EE : (nI (t % 4) = nI (t / 4)) = False := eE.trans (eq_false hab)
        have L0 : (nI (t % 4) = 0) = True := l0.trans (eq_true a0)
        have L1 : (nI (t % 4) = 3) = False := l1.trans (eq_false (by omega))
        have H0 : (nI (t / 4) = 0) = False := g0.trans (eq_false b0)
        have H1 : (nI (t / 4) = 3) = False := g1.trans (eq_false b1)
        have fl : flg (t % 4) 3 = 0 := by unfold flg; rw [if_pos a0]
        have fh : flg (t / 4) 3 = 2 := by unfold flg; rw [if_neg b0, if_neg b1]
        rw [fl] at hL eL0
        rw [fh] at hH eH0
        have eL : oL = (0, G) := eL0
        have eH : oH = tab1 2 3 oL.2 (row 0) (t / 4) := eH0
        clear eL0 eH0
        rw [fl, fh]
        simp (decide := true) only [h1, h11, BmCi_tableNode, BmCi_isConstant, sl1, sl2, an3, sr2 (d := t) (by omega), hmod, EE, L0, L1, H0, H1, vp_in, EV, EW, CT, ev_o, ev_is, ev_gd, List.length_cons, List.length_nil, Nat.reduceLT, Nat.reduceAdd, Nat.reduceEqDiff, Nat.reduceLeDiff, Int32.reduceLT, Int32.reduceLE, Int32.reduceSub, Int32.reduceToNatClampNeg, reduceIte, true_and, and_true, true_or, or_true, or_self, or_false, not_true_eq_false, not_false_eq_true, false_imp_iff, true_imp_iff, implies_true]
        have hG2 : GW w oL.2 := by rw [eL]; exact hG
        refine cx_cs1 5 0 0 (by decide) (c_Ci_table1 hG2 hL.1 (by have := hL.2.2.1; omega) h11 (hz0.mono hL.2.1) (by omega)) fun r w3 q => ?_
        obtain ⟨rfl, hG3, hk3⟩ := q
        have h113 : w3 11 = ai 3 row := (hk3 11 (by omega)).trans h11
        rw [← eH] at hG3 ⊢
        simp (decide := true) only [hG3.1, h113, BmCi_tableNode, BmCi_isConstant, sl1, sl2, an3, sr2 (d := t) (by omega), hmod, EE, L0, L1, H0, H1, vp_in, EV, EW, CT, ev_o, ev_is, ev_gd, List.length_cons, List.length_nil, Nat.reduceLT, Nat.reduceAdd, Nat.reduceEqDiff, Nat.reduceLeDiff, Int32.reduceLT, Int32.reduceLE, Int32.reduceSub, Int32.reduceToNatClampNeg, reduceIte, true_and, and_true, true_or, or_true, or_self, or_false, not_true_eq_false, not_false_eq_true, false_imp_iff, true_imp_iff, implies_true]
        refine cx_cs1 4 0 0 (by decide) (c_Ci_joinHalves (lo := 0) (hi := 2) (l := oL.1) (h := oH.1) hG3 hH.1 (by have := hL.2.2.1; have := hH.2.2.1; omega) ((hz1.mono hL.2.1).mono hH.2.1) (Or.inl ⟨rfl, rfl, rfl⟩) (Or.inr (Or.inr ⟨rfl, rfl, hH.2.2.2.1 rfl⟩))) fun r w4 q => ?_
        obtain ⟨rfl, hG4, hk4⟩ := q
        simp (decide := true) only [BmCi_tableNode, EV, EW, CT, ev_o, ev_is, ev_gd, List.length_cons, List.length_nil, Nat.reduceLT, Nat.reduceAdd, Nat.reduceEqDiff, Nat.reduceLeDiff, Int32.reduceLT, Int32.reduceLE, Int32.reduceSub, Int32.reduceToNatClampNeg, reduceIte, true_and, and_true, true_or, or_true, or_self, or_false, not_true_eq_false, not_false_eq_true, false_imp_iff, true_imp_iff, implies_true]
        exact GQ.of hk3 ⟨rfl, hG4, hk4⟩
    · by_cases a1 : t % 4 = 3
      · by_cases b0 : t / 4 = 0
        · have EE : (nI (t % 4) = nI (t / 4)) = False := eE.trans (eq_false hab)
          have L0 : (nI (t % 4) = 0) = False := l0.trans (eq_false a0)
          have L1 : (nI (t % 4) = 3) = True := l1.trans (eq_true a1)
          have H0 : (nI (t / 4) = 0) = True := g0.trans (eq_true b0)
          have H1 : (nI (t / 4) = 3) = False := g1.trans (eq_false (by omega))
          have fl : flg (t % 4) 3 = 1 := by unfold flg; rw [if_neg a0, if_pos a1]
          have fh : flg (t / 4) 3 = 0 := by unfold flg; rw [if_pos b0]
          rw [fl] at hL eL0
          rw [fh] at hH eH0
          have eL : oL = (0, G) := eL0
          have eH : oH = (0, oL.2) := eH0
          clear eL0 eH0
          rw [fl, fh]
          simp (decide := true) only [h1, h11, BmCi_tableNode, BmCi_isConstant, sl1, sl2, an3, sr2 (d := t) (by omega), hmod, EE, L0, L1, H0, H1, vp_in, EV, EW, CT, ev_o, ev_is, ev_gd, List.length_cons, List.length_nil, Nat.reduceLT, Nat.reduceAdd, Nat.reduceEqDiff, Nat.reduceLeDiff, Int32.reduceLT, Int32.reduceLE, Int32.reduceSub, Int32.reduceToNatClampNeg, reduceIte, true_and, and_true, true_or, or_true, or_self, or_false, not_true_eq_false, not_false_eq_true, false_imp_iff, true_imp_iff, implies_true]
          have hG2 : GW w oL.2 := by rw [eL]; exact hG
          have hG3 : GW w oH.2 := by rw [eH]; exact hG2
          refine cx_cs1 4 0 0 (by decide) (c_Ci_joinHalves (lo := 1) (hi := 0) (l := oL.1) (h := oH.1) hG3 hH.1 (by have := hL.2.2.1; have := hH.2.2.1; omega) ((hz1.mono hL.2.1).mono hH.2.1) (Or.inr (Or.inl ⟨rfl, rfl, rfl⟩)) (Or.inl ⟨rfl, rfl, rfl⟩)) fun r w4 q => ?_
          obtain ⟨rfl, hG4, hk4⟩ := q
          simp (decide := true) only [BmCi_tableNode, EV, EW, CT, ev_o, ev_is, ev_gd, List.length_cons, List.length_nil, Nat.reduceLT, Nat.reduceAdd, Nat.reduceEqDiff, Nat.reduceLeDiff, Int32.reduceLT, Int32.reduceLE, Int32.reduceSub, Int32.reduceToNatClampNeg, reduceIte, true_and, and_true, true_or, or_true, or_self, or_false, not_true_eq_false, not_false_eq_true, false_imp_iff, true_imp_iff, implies_true]
          exact ⟨rfl, hG4, hk4⟩
        · have b1 : ¬ t / 4 = 3 := by omega
          have EE : (nI (t % 4) = nI (t / 4)) = False := eE.trans (eq_false hab)
          have L0 : (nI (t % 4) = 0) = False := l0.trans (eq_false a0)
          have L1 : (nI (t % 4) = 3) = True := l1.trans (eq_true a1)
          have H0 : (nI (t / 4) = 0) = False := g0.trans (eq_false b0)
          have H1 : (nI (t / 4) = 3) = False := g1.trans (eq_false b1)
          have fl : flg (t % 4) 3 = 1 := by unfold flg; rw [if_neg a0, if_pos a1]
          have fh : flg (t / 4) 3 = 2 := by unfold flg; rw [if_neg b0, if_neg b1]
          rw [fl] at hL eL0
          rw [fh] at hH eH0
          have eL : oL = (0, G) := eL0
          have eH : oH = tab1 2 3 oL.2 (row 0) (t / 4) := eH0
          clear eL0 eH0
          rw [fl, fh]
          simp (decide := true) only [h1, h11, BmCi_tableNode, BmCi_isConstant, sl1, sl2, an3, sr2 (d := t) (by omega), hmod, EE, L0, L1, H0, H1, vp_in, EV, EW, CT, ev_o, ev_is, ev_gd, List.length_cons, List.length_nil, Nat.reduceLT, Nat.reduceAdd, Nat.reduceEqDiff, Nat.reduceLeDiff, Int32.reduceLT, Int32.reduceLE, Int32.reduceSub, Int32.reduceToNatClampNeg, reduceIte, true_and, and_true, true_or, or_true, or_self, or_false, not_true_eq_false, not_false_eq_true, false_imp_iff, true_imp_iff, implies_true]
          have hG2 : GW w oL.2 := by rw [eL]; exact hG
          refine cx_cs1 5 0 0 (by decide) (c_Ci_table1 hG2 hL.1 (by have := hL.2.2.1; omega) h11 (hz0.mono hL.2.1) (by omega)) fun r w3 q => ?_
          obtain ⟨rfl, hG3, hk3⟩ := q
          have h113 : w3 11 = ai 3 row := (hk3 11 (by omega)).trans h11
          rw [← eH] at hG3 ⊢
          simp (decide := true) only [hG3.1, h113, BmCi_tableNode, BmCi_isConstant, sl1, sl2, an3, sr2 (d := t) (by omega), hmod, EE, L0, L1, H0, H1, vp_in, EV, EW, CT, ev_o, ev_is, ev_gd, List.length_cons, List.length_nil, Nat.reduceLT, Nat.reduceAdd, Nat.reduceEqDiff, Nat.reduceLeDiff, Int32.reduceLT, Int32.reduceLE, Int32.reduceSub, Int32.reduceToNatClampNeg, reduceIte, true_and, and_true, true_or, or_true, or_self, or_false, not_true_eq_false, not_false_eq_true, false_imp_iff, true_imp_iff, implies_true]
          refine cx_cs1 4 0 0 (by decide) (c_Ci_joinHalves (lo := 1) (hi := 2) (l := oL.1) (h := oH.1) hG3 hH.1 (by have := hL.2.2.1; have := hH.2.2.1; omega) ((hz1.mono hL.2.1).mono hH.2.1) (Or.inr (Or.inl ⟨rfl, rfl, rfl⟩)) (Or.inr (Or.inr ⟨rfl, rfl, hH.2.2.2.1 rfl⟩))) fun r w4 q => ?_
          obtain ⟨rfl, hG4, hk4⟩ := q
          simp (decide := true) only [BmCi_tableNode, EV, EW, CT, ev_o, ev_is, ev_gd, List.length_cons, List.length_nil, Nat.reduceLT, Nat.reduceAdd, Nat.reduceEqDiff, Nat.reduceLeDiff, Int32.reduceLT, Int32.reduceLE, Int32.reduceSub, Int32.reduceToNatClampNeg, reduceIte, true_and, and_true, true_or, or_true, or_self, or_false, not_true_eq_false, not_false_eq_true, false_imp_iff, true_imp_iff, implies_true]
          exact GQ.of hk3 ⟨rfl, hG4, hk4⟩
      · by_cases b0 : t / 4 = 0
        · have EE : (nI (t % 4) = nI (t / 4)) = False := eE.trans (eq_false hab)
          have L0 : (nI (t % 4) = 0) = False := l0.trans (eq_false a0)
          have L1 : (nI (t % 4) = 3) = False := l1.trans (eq_false a1)
          have H0 : (nI (t / 4) = 0) = True := g0.trans (eq_true b0)
          have H1 : (nI (t / 4) = 3) = False := g1.trans (eq_false (by omega))
          have fl : flg (t % 4) 3 = 2 := by unfold flg; rw [if_neg a0, if_neg a1]
          have fh : flg (t / 4) 3 = 0 := by unfold flg; rw [if_pos b0]
          rw [fl] at hL eL0
          rw [fh] at hH eH0
          have eL : oL = tab1 2 3 G (row 0) (t % 4) := eL0
          have eH : oH = (0, oL.2) := eH0
          clear eL0 eH0
          rw [fl, fh]
          simp (decide := true) only [h1, h11, BmCi_tableNode, BmCi_isConstant, sl1, sl2, an3, sr2 (d := t) (by omega), hmod, EE, L0, L1, H0, H1, vp_in, EV, EW, CT, ev_o, ev_is, ev_gd, List.length_cons, List.length_nil, Nat.reduceLT, Nat.reduceAdd, Nat.reduceEqDiff, Nat.reduceLeDiff, Int32.reduceLT, Int32.reduceLE, Int32.reduceSub, Int32.reduceToNatClampNeg, reduceIte, true_and, and_true, true_or, or_true, or_self, or_false, not_true_eq_false, not_false_eq_true, false_imp_iff, true_imp_iff, implies_true]
          refine cx_cs1 5 0 0 (by decide) (c_Ci_table1 hG hW (by omega) h11 hz0 (by omega)) fun r w2 q => ?_
          obtain ⟨rfl, hG2, hk2⟩ := q
          have h112 : w2 11 = ai 3 row := (hk2 11 (by omega)).trans h11
          rw [← eL] at hG2 ⊢
          simp (decide := true) only [hG2.1, h112, BmCi_tableNode, BmCi_isConstant, sl1, sl2, an3, sr2 (d := t) (by omega), hmod, EE, L0, L1, H0, H1, vp_in, EV, EW, CT, ev_o, ev_is, ev_gd, List.length_cons, List.length_nil, Nat.reduceLT, Nat.reduceAdd, Nat.reduceEqDiff, Nat.reduceLeDiff, Int32.reduceLT, Int32.reduceLE, Int32.reduceSub, Int32.reduceToNatClampNeg, reduceIte, true_and, and_true, true_or, or_true, or_self, or_false, not_true_eq_false, not_false_eq_true, false_imp_iff, true_imp_iff, implies_true]
          have hG3 : GW w2 oH.2 := by rw [eH]; exact hG2
          refine cx_cs1 4 0 0 (by decide) (c_Ci_joinHalves (lo := 2) (hi := 0) (l := oL.1) (h := oH.1) hG3 hH.1 (by have := hL.2.2.1; have := hH.2.2.1; omega) ((hz1.mono hL.2.1).mono hH.2.1) (Or.inr (Or.inr ⟨rfl, rfl, (hL.2.2.2.1 rfl).mono hH.2.1⟩)) (Or.inl ⟨rfl, rfl, rfl⟩)) fun r w4 q => ?_
          obtain ⟨rfl, hG4, hk4⟩ := q
          simp (decide := true) only [BmCi_tableNode, EV, EW, CT, ev_o, ev_is, ev_gd, List.length_cons, List.length_nil, Nat.reduceLT, Nat.reduceAdd, Nat.reduceEqDiff, Nat.reduceLeDiff, Int32.reduceLT, Int32.reduceLE, Int32.reduceSub, Int32.reduceToNatClampNeg, reduceIte, true_and, and_true, true_or, or_true, or_self, or_false, not_true_eq_false, not_false_eq_true, false_imp_iff, true_imp_iff, implies_true]
          exact GQ.of hk2 ⟨rfl, hG4, hk4⟩
        · by_cases b1 : t / 4 = 3
          · have EE : (nI (t % 4) = nI (t / 4)) = False := eE.trans (eq_false hab)
            have L0 : (nI (t % 4) = 0) = False := l0.trans (eq_false a0)
            have L1 : (nI (t % 4) = 3) = False := l1.trans (eq_false a1)
            have H0 : (nI (t / 4) = 0) = False := g0.trans (eq_false b0)
            have H1 : (nI (t / 4) = 3) = True := g1.trans (eq_true b1)
            have fl : flg (t % 4) 3 = 2 := by unfold flg; rw [if_neg a0, if_neg a1]
            have fh : flg (t / 4) 3 = 1 := by unfold flg; rw [if_neg b0, if_pos b1]
            rw [fl] at hL eL0
            rw [fh] at hH eH0
            have eL : oL = tab1 2 3 G (row 0) (t % 4) := eL0
            have eH : oH = (0, oL.2) := eH0
            clear eL0 eH0
            rw [fl, fh]
            simp (decide := true) only [h1, h11, BmCi_tableNode, BmCi_isConstant, sl1, sl2, an3, sr2 (d := t) (by omega), hmod, EE, L0, L1, H0, H1, vp_in, EV, EW, CT, ev_o, ev_is, ev_gd, List.length_cons, List.length_nil, Nat.reduceLT, Nat.reduceAdd, Nat.reduceEqDiff, Nat.reduceLeDiff, Int32.reduceLT, Int32.reduceLE, Int32.reduceSub, Int32.reduceToNatClampNeg, reduceIte, true_and, and_true, true_or, or_true, or_self, or_false, not_true_eq_false, not_false_eq_true, false_imp_iff, true_imp_iff, implies_true]
            refine cx_cs1 5 0 0 (by decide) (c_Ci_table1 hG hW (by omega) h11 hz0 (by omega)) fun r w2 q => ?_
            obtain ⟨rfl, hG2, hk2⟩ := q
            have h112 : w2 11 = ai 3 row := (hk2 11 (by omega)).trans h11
            rw [← eL] at hG2 ⊢
            simp (decide := true) only [hG2.1, h112, BmCi_tableNode, BmCi_isConstant, sl1, sl2, an3, sr2 (d := t) (by omega), hmod, EE, L0, L1, H0, H1, vp_in, EV, EW, CT, ev_o, ev_is, ev_gd, List.length_cons, List.length_nil, Nat.reduceLT, Nat.reduceAdd, Nat.reduceEqDiff, Nat.reduceLeDiff, Int32.reduceLT, Int32.reduceLE, Int32.reduceSub, Int32.reduceToNatClampNeg, reduceIte, true_and, and_true, true_or, or_true, or_self, or_false, not_true_eq_false, not_false_eq_true, false_imp_iff, true_imp_iff, implies_true]
            have hG3 : GW w2 oH.2 := by rw [eH]; exact hG2
            refine cx_cs1 4 0 0 (by decide) (c_Ci_joinHalves (lo := 2) (hi := 1) (l := oL.1) (h := oH.1) hG3 hH.1 (by have := hL.2.2.1; have := hH.2.2.1; omega) ((hz1.mono hL.2.1).mono hH.2.1) (Or.inr (Or.inr ⟨rfl, rfl, (hL.2.2.2.1 rfl).mono hH.2.1⟩)) (Or.inr (Or.inl ⟨rfl, rfl, rfl⟩))) fun r w4 q => ?_
            obtain ⟨rfl, hG4, hk4⟩ := q
            simp (decide := true) only [BmCi_tableNode, EV, EW, CT, ev_o, ev_is, ev_gd, List.length_cons, List.length_nil, Nat.reduceLT, Nat.reduceAdd, Nat.reduceEqDiff, Nat.reduceLeDiff, Int32.reduceLT, Int32.reduceLE, Int32.reduceSub, Int32.reduceToNatClampNeg, reduceIte, true_and, and_true, true_or, or_true, or_self, or_false, not_true_eq_false, not_false_eq_true, false_imp_iff, true_imp_iff, implies_true]
            exact GQ.of hk2 ⟨rfl, hG4, hk4⟩
          · have EE : (nI (t % 4) = nI (t / 4)) = False := eE.trans (eq_false hab)
            have L0 : (nI (t % 4) = 0) = False := l0.trans (eq_false a0)
            have L1 : (nI (t % 4) = 3) = False := l1.trans (eq_false a1)
            have H0 : (nI (t / 4) = 0) = False := g0.trans (eq_false b0)
            have H1 : (nI (t / 4) = 3) = False := g1.trans (eq_false b1)
            have fl : flg (t % 4) 3 = 2 := by unfold flg; rw [if_neg a0, if_neg a1]
            have fh : flg (t / 4) 3 = 2 := by unfold flg; rw [if_neg b0, if_neg b1]
            rw [fl] at hL eL0
            rw [fh] at hH eH0
            have eL : oL = tab1 2 3 G (row 0) (t % 4) := eL0
            have eH : oH = tab1 2 3 oL.2 (row 0) (t / 4) := eH0
            clear eL0 eH0
            rw [fl, fh]
            simp (decide := true) only [h1, h11, BmCi_tableNode, BmCi_isConstant, sl1, sl2, an3, sr2 (d := t) (by omega), hmod, EE, L0, L1, H0, H1, vp_in, EV, EW, CT, ev_o, ev_is, ev_gd, List.length_cons, List.length_nil, Nat.reduceLT, Nat.reduceAdd, Nat.reduceEqDiff, Nat.reduceLeDiff, Int32.reduceLT, Int32.reduceLE, Int32.reduceSub, Int32.reduceToNatClampNeg, reduceIte, true_and, and_true, true_or, or_true, or_self, or_false, not_true_eq_false, not_false_eq_true, false_imp_iff, true_imp_iff, implies_true]
            refine cx_cs1 5 0 0 (by decide) (c_Ci_table1 hG hW (by omega) h11 hz0 (by omega)) fun r w2 q => ?_
            obtain ⟨rfl, hG2, hk2⟩ := q
            have h112 : w2 11 = ai 3 row := (hk2 11 (by omega)).trans h11
            rw [← eL] at hG2 ⊢
            simp (decide := true) only [hG2.1, h112, BmCi_tableNode, BmCi_isConstant, sl1, sl2, an3, sr2 (d := t) (by omega), hmod, EE, L0, L1, H0, H1, vp_in, EV, EW, CT, ev_o, ev_is, ev_gd, List.length_cons, List.length_nil, Nat.reduceLT, Nat.reduceAdd, Nat.reduceEqDiff, Nat.reduceLeDiff, Int32.reduceLT, Int32.reduceLE, Int32.reduceSub, Int32.reduceToNatClampNeg, reduceIte, true_and, and_true, true_or, or_true, or_self, or_false, not_true_eq_false, not_false_eq_true, false_imp_iff, true_imp_iff, implies_true]
            refine cx_cs1 5 0 0 (by decide) (c_Ci_table1 hG2 hL.1 (by have := hL.2.2.1; omega) h112 (hz0.mono hL.2.1) (by omega)) fun r w3 q => ?_
            obtain ⟨rfl, hG3, hk3⟩ := q
            have h113 : w3 11 = ai 3 row := (hk3 11 (by omega)).trans h112
            rw [← eH] at hG3 ⊢
            simp (decide := true) only [hG3.1, h113, BmCi_tableNode, BmCi_isConstant, sl1, sl2, an3, sr2 (d := t) (by omega), hmod, EE, L0, L1, H0, H1, vp_in, EV, EW, CT, ev_o, ev_is, ev_gd, List.length_cons, List.length_nil, Nat.reduceLT, Nat.reduceAdd, Nat.reduceEqDiff, Nat.reduceLeDiff, Int32.reduceLT, Int32.reduceLE, Int32.reduceSub, Int32.reduceToNatClampNeg, reduceIte, true_and, and_true, true_or, or_true, or_self, or_false, not_true_eq_false, not_false_eq_true, false_imp_iff, true_imp_iff, implies_true]
            refine cx_cs1 4 0 0 (by decide) (c_Ci_joinHalves (lo := 2) (hi := 2) (l := oL.1) (h := oH.1) hG3 hH.1 (by have := hL.2.2.1; have := hH.2.2.1; omega) ((hz1.mono hL.2.1).mono hH.2.1) (Or.inr (Or.inr ⟨rfl, rfl, (hL.2.2.2.1 rfl).mono hH.2.1⟩)) (Or.inr (Or.inr ⟨rfl, rfl, hH.2.2.2.1 rfl⟩))) fun r w4 q => ?_
            obtain ⟨rfl, hG4, hk4⟩ := q
            simp (decide := true) only [BmCi_tableNode, EV, EW, CT, ev_o, ev_is, ev_gd, List.length_cons, List.length_nil, Nat.reduceLT, Nat.reduceAdd, Nat.reduceEqDiff, Nat.reduceLeDiff, Int32.reduceLT, Int32.reduceLE, Int32.reduceSub, Int32.reduceToNatClampNeg, reduceIte, true_and, and_true, true_or, or_true, or_self, or_false, not_true_eq_false, not_false_eq_true, false_imp_iff, true_imp_iff, implies_true]
            exact GQ.of hk2 (GQ.of hk3 ⟨rfl, hG4, hk4⟩)
set_option maxHeartbeats 1000000 in
theorem c_Ci_table3 {w : cx_W} {G : Gr} {row : Nat → Int32} {t : Nat} (hG : GW w G) (hW : WFG 2 3 G) (hn : G.1 + 16 ≤ 48) (h11 : w 11 = ai 3 row) (hz0 : isN G.1 (row 0)) (hz1 : isN G.1 (row 1)) (hz2 : isN G.1 (row 2)) (ht0 : 0 < t) (ht : t < 255) :
    cx_MC mCi_tableNode 7 0 0 [.ref 1, .ref 11, .int 3, .int (nI t)] w 87 (GQ w (tab3 2 3 G (row 0) (row 1) (row 2) t)) := by
  have ne : ¬ (2 : Int32) = 3 := by decide
  have h1 := hG.1
  refine cx_met 120 mCi_tableNode_ok rfl ?_
  show cx_vc 120 none mCi_tableNode 7 0 0 _ _ 0 [some (.ref 1), some (.ref 11), some (.int 3), some (.int (nI t)), none, none, none, none, none, none, none] [] w (87, 0, 0)
  have hmod : t / 16 % 16 = t / 16 := Nat.mod_eq_of_lt (by omega)
  have eE := eqN (a := t % 16) (b := t / 16) (by omega) (by omega)
  have hL := tb3L_grown (t := t) ne hW (by omega) hz0 hz1
  have hH := tb3H_grown (t := t) ne hW (by omega) hz0 hz1 (by omega)
  by_cases hab : t % 16 = t / 16
  · simp (decide := true) only [BmCi_tableNode, BmCi_isConstant, h1, h11, sl2, sl4, an15, sr4 (d := t) (by omega), hmod, eE, hab, EV, EW, CT, ev_o, ev_is, ev_gd, List.length_cons, List.length_nil, Nat.reduceLT, Nat.reduceAdd, Nat.reduceEqDiff, Nat.reduceLeDiff, Int32.reduceLT, Int32.reduceLE, Int32.reduceSub, Int32.reduceToNatClampNeg, reduceIte, true_and, and_true, true_or, or_true, or_self, or_false, not_true_eq_false, not_false_eq_true, false_imp_iff, true_imp_iff, implies_true]
    have ep : tab3 2 3 G (row 0) (row 1) (row 2) t = tab2 2 3 G (row 0) (row 1) (t / 16) := by
      unfold tab3
      rw [if_pos hab, hab]
    rw [ep]
    refine cx_cs1 6 0 0 (by decide) (c_Ci_table2 hG hW (by omega) h11 hz0 hz1 (by omega) (by omega)) fun r w2 q => ?_
    obtain ⟨rfl, hG2, hk2⟩ := q
    simp (decide := true) only [BmCi_tableNode, EV, EW, CT, ev_o, ev_is, ev_gd, List.length_cons, List.length_nil, Nat.reduceLT, Nat.reduceAdd, Nat.reduceEqDiff, Nat.reduceLeDiff, Int32.reduceLT, Int32.reduceLE, Int32.reduceSub, Int32.reduceToNatClampNeg, reduceIte, true_and, and_true, true_or, or_true, or_self, or_false, not_true_eq_false, not_false_eq_true, false_imp_iff, true_imp_iff, implies_true]
    exact ⟨rfl, hG2, hk2⟩
  · have ep : tab3 2 3 G (row 0) (row 1) (row 2) t = joinN 2 3 (tb3H 2 3 G (row 0) (row 1) t).2 (row 2) (flg (t % 16) 15) (tb3L 2 3 G (row 0) (row 1) t).1 (flg (t / 16) 15) (tb3H 2 3 G (row 0) (row 1) t).1 := by
      unfold tab3
      rw [if_neg hab]
    rw [ep]
    have eL0 : tb3L 2 3 G (row 0) (row 1) t = if flg (t % 16) 15 = 2 then tab2 2 3 G (row 0) (row 1) (t % 16) else (0, G) := rfl
    have eH0 : tb3H 2 3 G (row 0) (row 1) t = if flg (t / 16) 15 = 2 then tab2 2 3 (tb3L 2 3 G (row 0) (row 1) t).2 (row 0) (row 1) (t / 16) else (0, (tb3L 2 3 G (row 0) (row 1) t).2) := rfl
    clear ep
    generalize tb3H 2 3 G (row 0) (row 1) t = oH at *
    generalize tb3L 2 3 G (row 0) (row 1) t = oL at *
    have l0 := eqc (a := t % 16) (c := 0) (x := 0) rfl (by omega) (by decide)
    have l1 := eqc (a := t % 16) (c := 15) (x := 15) rfl (by omega) (by decide)
    have g0 := eqc (a := t / 16) (c := 0) (x := 0) rfl (by omega) (by decide)
    have g1 := eqc (a := t / 16) (c := 15) (x := 15) rfl (by omega) (by decide)
    by_cases a0 : t % 16 = 0
    · have b0 : ¬ t / 16 = 0 := by omega
      by_cases b1 : t / 16 = 15
      · have EE : (nI (t % 16) = nI (t / 16)) = False := eE.trans (eq_false hab)
        have L0 : (nI (t % 16) = 0) = True := l0.trans (eq_true a0)
        have L1 : (nI (t % 16) = 15) = False := l1.trans (eq_false (by omega))
        have H0 : (nI (t / 16) = 0) = False := g0.trans (eq_false b0)
        have H1 : (nI (t / 16) = 15) = True := g1.trans (eq_true b1)
        have fl : flg (t % 16) 15 = 0 := by unfold flg; rw [if_pos a0]
        have fh : flg (t / 16) 15 = 1 := by unfold flg; rw [if_neg b0, if_pos b1]
        rw [fl] at hL eL0
        rw [fh] at hH eH0
        have eL : oL = (0, G) := eL0
        have eH : oH = (0, oL.2) := eH0
        clear eL0 eH0
        rw [fl, fh]
        simp (decide := true) only [h1, h11, BmCi_tableNode, BmCi_isConstant, sl2, sl4, an15, sr4 (d := t) (by omega), hmod, EE, L0, L1, H0, H1, vp_in, EV, EW, CT, ev_o, ev_is, ev_gd, List.length_cons, List.length_nil, Nat.reduceLT, Nat.reduceAdd, Nat.reduceEqDiff, Nat.reduceLeDiff, Int32.reduceLT, Int32.reduceLE, Int32.reduceSub, Int32.reduceToNatClampNeg, reduceIte, true_and, and_true, true_or, or_true, or_self, or_false, not_true_eq_false, not_false_eq_true, false_imp_iff, true_imp_iff, implies_true]
        have hG2 : GW w oL.2 := by rw [eL]; exact hG
        have hG3 : GW w oH.2 := by rw [eH]; exact hG2
        refine cx_cs1 4 0 0 (by decide) (c_Ci_joinHalves (lo := 0) (hi := 1) (l := oL.1) (h := oH.1) hG3 hH.1 (by have := hL.2.2.1; have := hH.2.2.1; omega) ((hz2.mono hL.2.1).mono hH.2.1) (Or.inl ⟨rfl, rfl, rfl⟩) (Or.inr (Or.inl ⟨rfl, rfl, rfl⟩))) fun r w4 q => ?_
        obtain ⟨rfl, hG4, hk4⟩ := q
        simp (decide := true) only [BmCi_tableNode, EV, EW, CT, ev_o, ev_is, ev_gd, List.length_cons, List.length_nil, Nat.reduceLT, Nat.reduceAdd, Nat.reduceEqDiff, Nat.reduceLeDiff, Int32.reduceLT, Int32.reduceLE, Int32.reduceSub, Int32.reduceToNatClampNeg, reduceIte, true_and, and_true, true_or, or_true, or_self, or_false, not_true_eq_false, not_false_eq_true, false_imp_iff, true_imp_iff, implies_true]
        exact ⟨rfl, hG4, hk4⟩
      · have EE : (nI (t % 16) = nI (t / 16)) = False := eE.trans (eq_false hab)
        have L0 : (nI (t % 16) = 0) = True := l0.trans (eq_true a0)
        have L1 : (nI (t % 16) = 15) = False := l1.trans (eq_false (by omega))
        have H0 : (nI (t / 16) = 0) = False := g0.trans (eq_false b0)
        have H1 : (nI (t / 16) = 15) = False := g1.trans (eq_false b1)
        have fl : flg (t % 16) 15 = 0 := by unfold flg; rw [if_pos a0]
        have fh : flg (t / 16) 15 = 2 := by unfold flg; rw [if_neg b0, if_neg b1]
        rw [fl] at hL eL0
        rw [fh] at hH eH0
        have eL : oL = (0, G) := eL0
        have eH : oH = tab2 2 3 oL.2 (row 0) (row 1) (t / 16) := eH0
        clear eL0 eH0
        rw [fl, fh]
        simp (decide := true) only [h1, h11, BmCi_tableNode, BmCi_isConstant, sl2, sl4, an15, sr4 (d := t) (by omega), hmod, EE, L0, L1, H0, H1, vp_in, EV, EW, CT, ev_o, ev_is, ev_gd, List.length_cons, List.length_nil, Nat.reduceLT, Nat.reduceAdd, Nat.reduceEqDiff, Nat.reduceLeDiff, Int32.reduceLT, Int32.reduceLE, Int32.reduceSub, Int32.reduceToNatClampNeg, reduceIte, true_and, and_true, true_or, or_true, or_self, or_false, not_true_eq_false, not_false_eq_true, false_imp_iff, true_imp_iff, implies_true]
        have hG2 : GW w oL.2 := by rw [eL]; exact hG
        refine cx_cs1 6 0 0 (by decide) (c_Ci_table2 hG2 hL.1 (by have := hL.2.2.1; omega) h11 (hz0.mono hL.2.1) (hz1.mono hL.2.1) (by omega) (by omega)) fun r w3 q => ?_
        obtain ⟨rfl, hG3, hk3⟩ := q
        have h113 : w3 11 = ai 3 row := (hk3 11 (by omega)).trans h11
        rw [← eH] at hG3 ⊢
        simp (decide := true) only [hG3.1, h113, BmCi_tableNode, BmCi_isConstant, sl2, sl4, an15, sr4 (d := t) (by omega), hmod, EE, L0, L1, H0, H1, vp_in, EV, EW, CT, ev_o, ev_is, ev_gd, List.length_cons, List.length_nil, Nat.reduceLT, Nat.reduceAdd, Nat.reduceEqDiff, Nat.reduceLeDiff, Int32.reduceLT, Int32.reduceLE, Int32.reduceSub, Int32.reduceToNatClampNeg, reduceIte, true_and, and_true, true_or, or_true, or_self, or_false, not_true_eq_false, not_false_eq_true, false_imp_iff, true_imp_iff, implies_true]
        refine cx_cs1 4 0 0 (by decide) (c_Ci_joinHalves (lo := 0) (hi := 2) (l := oL.1) (h := oH.1) hG3 hH.1 (by have := hL.2.2.1; have := hH.2.2.1; omega) ((hz2.mono hL.2.1).mono hH.2.1) (Or.inl ⟨rfl, rfl, rfl⟩) (Or.inr (Or.inr ⟨rfl, rfl, hH.2.2.2.1 rfl⟩))) fun r w4 q => ?_
        obtain ⟨rfl, hG4, hk4⟩ := q
        simp (decide := true) only [BmCi_tableNode, EV, EW, CT, ev_o, ev_is, ev_gd, List.length_cons, List.length_nil, Nat.reduceLT, Nat.reduceAdd, Nat.reduceEqDiff, Nat.reduceLeDiff, Int32.reduceLT, Int32.reduceLE, Int32.reduceSub, Int32.reduceToNatClampNeg, reduceIte, true_and, and_true, true_or, or_true, or_self, or_false, not_true_eq_false, not_false_eq_true, false_imp_iff, true_imp_iff, implies_true]
        exact GQ.of hk3 ⟨rfl, hG4, hk4⟩
    · by_cases a1 : t % 16 = 15
      · by_cases b0 : t / 16 = 0
        · have EE : (nI (t % 16) = nI (t / 16)) = False := eE.trans (eq_false hab)
          have L0 : (nI (t % 16) = 0) = False := l0.trans (eq_false a0)
          have L1 : (nI (t % 16) = 15) = True := l1.trans (eq_true a1)
          have H0 : (nI (t / 16) = 0) = True := g0.trans (eq_true b0)
          have H1 : (nI (t / 16) = 15) = False := g1.trans (eq_false (by omega))
          have fl : flg (t % 16) 15 = 1 := by unfold flg; rw [if_neg a0, if_pos a1]
          have fh : flg (t / 16) 15 = 0 := by unfold flg; rw [if_pos b0]
          rw [fl] at hL eL0
          rw [fh] at hH eH0
          have eL : oL = (0, G) := eL0
          have eH : oH = (0, oL.2) := eH0
          clear eL0 eH0
          rw [fl, fh]
          simp (decide := true) only [h1, h11, BmCi_tableNode, BmCi_isConstant, sl2, sl4, an15, sr4 (d := t) (by omega), hmod, EE, L0, L1, H0, H1, vp_in, EV, EW, CT, ev_o, ev_is, ev_gd, List.length_cons, List.length_nil, Nat.reduceLT, Nat.reduceAdd, Nat.reduceEqDiff, Nat.reduceLeDiff, Int32.reduceLT, Int32.reduceLE, Int32.reduceSub, Int32.reduceToNatClampNeg, reduceIte, true_and, and_true, true_or, or_true, or_self, or_false, not_true_eq_false, not_false_eq_true, false_imp_iff, true_imp_iff, implies_true]
          have hG2 : GW w oL.2 := by rw [eL]; exact hG
          have hG3 : GW w oH.2 := by rw [eH]; exact hG2
          refine cx_cs1 4 0 0 (by decide) (c_Ci_joinHalves (lo := 1) (hi := 0) (l := oL.1) (h := oH.1) hG3 hH.1 (by have := hL.2.2.1; have := hH.2.2.1; omega) ((hz2.mono hL.2.1).mono hH.2.1) (Or.inr (Or.inl ⟨rfl, rfl, rfl⟩)) (Or.inl ⟨rfl, rfl, rfl⟩)) fun r w4 q => ?_
          obtain ⟨rfl, hG4, hk4⟩ := q
          simp (decide := true) only [BmCi_tableNode, EV, EW, CT, ev_o, ev_is, ev_gd, List.length_cons, List.length_nil, Nat.reduceLT, Nat.reduceAdd, Nat.reduceEqDiff, Nat.reduceLeDiff, Int32.reduceLT, Int32.reduceLE, Int32.reduceSub, Int32.reduceToNatClampNeg, reduceIte, true_and, and_true, true_or, or_true, or_self, or_false, not_true_eq_false, not_false_eq_true, false_imp_iff, true_imp_iff, implies_true]
          exact ⟨rfl, hG4, hk4⟩
        · have b1 : ¬ t / 16 = 15 := by omega
          have EE : (nI (t % 16) = nI (t / 16)) = False := eE.trans (eq_false hab)
          have L0 : (nI (t % 16) = 0) = False := l0.trans (eq_false a0)
          have L1 : (nI (t % 16) = 15) = True := l1.trans (eq_true a1)
          have H0 : (nI (t / 16) = 0) = False := g0.trans (eq_false b0)
          have H1 : (nI (t / 16) = 15) = False := g1.trans (eq_false b1)
          have fl : flg (t % 16) 15 = 1 := by unfold flg; rw [if_neg a0, if_pos a1]
          have fh : flg (t / 16) 15 = 2 := by unfold flg; rw [if_neg b0, if_neg b1]
          rw [fl] at hL eL0
          rw [fh] at hH eH0
          have eL : oL = (0, G) := eL0
          have eH : oH = tab2 2 3 oL.2 (row 0) (row 1) (t / 16) := eH0
          clear eL0 eH0
          rw [fl, fh]
          simp (decide := true) only [h1, h11, BmCi_tableNode, BmCi_isConstant, sl2, sl4, an15, sr4 (d := t) (by omega), hmod, EE, L0, L1, H0, H1, vp_in, EV, EW, CT, ev_o, ev_is, ev_gd, List.length_cons, List.length_nil, Nat.reduceLT, Nat.reduceAdd, Nat.reduceEqDiff, Nat.reduceLeDiff, Int32.reduceLT, Int32.reduceLE, Int32.reduceSub, Int32.reduceToNatClampNeg, reduceIte, true_and, and_true, true_or, or_true, or_self, or_false, not_true_eq_false, not_false_eq_true, false_imp_iff, true_imp_iff, implies_true]
          have hG2 : GW w oL.2 := by rw [eL]; exact hG
          refine cx_cs1 6 0 0 (by decide) (c_Ci_table2 hG2 hL.1 (by have := hL.2.2.1; omega) h11 (hz0.mono hL.2.1) (hz1.mono hL.2.1) (by omega) (by omega)) fun r w3 q => ?_
          obtain ⟨rfl, hG3, hk3⟩ := q
          have h113 : w3 11 = ai 3 row := (hk3 11 (by omega)).trans h11
          rw [← eH] at hG3 ⊢
          simp (decide := true) only [hG3.1, h113, BmCi_tableNode, BmCi_isConstant, sl2, sl4, an15, sr4 (d := t) (by omega), hmod, EE, L0, L1, H0, H1, vp_in, EV, EW, CT, ev_o, ev_is, ev_gd, List.length_cons, List.length_nil, Nat.reduceLT, Nat.reduceAdd, Nat.reduceEqDiff, Nat.reduceLeDiff, Int32.reduceLT, Int32.reduceLE, Int32.reduceSub, Int32.reduceToNatClampNeg, reduceIte, true_and, and_true, true_or, or_true, or_self, or_false, not_true_eq_false, not_false_eq_true, false_imp_iff, true_imp_iff, implies_true]
          refine cx_cs1 4 0 0 (by decide) (c_Ci_joinHalves (lo := 1) (hi := 2) (l := oL.1) (h := oH.1) hG3 hH.1 (by have := hL.2.2.1; have := hH.2.2.1; omega) ((hz2.mono hL.2.1).mono hH.2.1) (Or.inr (Or.inl ⟨rfl, rfl, rfl⟩)) (Or.inr (Or.inr ⟨rfl, rfl, hH.2.2.2.1 rfl⟩))) fun r w4 q => ?_
          obtain ⟨rfl, hG4, hk4⟩ := q
          simp (decide := true) only [BmCi_tableNode, EV, EW, CT, ev_o, ev_is, ev_gd, List.length_cons, List.length_nil, Nat.reduceLT, Nat.reduceAdd, Nat.reduceEqDiff, Nat.reduceLeDiff, Int32.reduceLT, Int32.reduceLE, Int32.reduceSub, Int32.reduceToNatClampNeg, reduceIte, true_and, and_true, true_or, or_true, or_self, or_false, not_true_eq_false, not_false_eq_true, false_imp_iff, true_imp_iff, implies_true]
          exact GQ.of hk3 ⟨rfl, hG4, hk4⟩
      · by_cases b0 : t / 16 = 0
        · have EE : (nI (t % 16) = nI (t / 16)) = False := eE.trans (eq_false hab)
          have L0 : (nI (t % 16) = 0) = False := l0.trans (eq_false a0)
          have L1 : (nI (t % 16) = 15) = False := l1.trans (eq_false a1)
          have H0 : (nI (t / 16) = 0) = True := g0.trans (eq_true b0)
          have H1 : (nI (t / 16) = 15) = False := g1.trans (eq_false (by omega))
          have fl : flg (t % 16) 15 = 2 := by unfold flg; rw [if_neg a0, if_neg a1]
          have fh : flg (t / 16) 15 = 0 := by unfold flg; rw [if_pos b0]
          rw [fl] at hL eL0
          rw [fh] at hH eH0
          have eL : oL = tab2 2 3 G (row 0) (row 1) (t % 16) := eL0
          have eH : oH = (0, oL.2) := eH0
          clear eL0 eH0
          rw [fl, fh]
          simp (decide := true) only [h1, h11, BmCi_tableNode, BmCi_isConstant, sl2, sl4, an15, sr4 (d := t) (by omega), hmod, EE, L0, L1, H0, H1, vp_in, EV, EW, CT, ev_o, ev_is, ev_gd, List.length_cons, List.length_nil, Nat.reduceLT, Nat.reduceAdd, Nat.reduceEqDiff, Nat.reduceLeDiff, Int32.reduceLT, Int32.reduceLE, Int32.reduceSub, Int32.reduceToNatClampNeg, reduceIte, true_and, and_true, true_or, or_true, or_self, or_false, not_true_eq_false, not_false_eq_true, false_imp_iff, true_imp_iff, implies_true]
          refine cx_cs1 6 0 0 (by decide) (c_Ci_table2 hG hW (by omega) h11 hz0 hz1 (by omega) (by omega)) fun r w2 q => ?_
          obtain ⟨rfl, hG2, hk2⟩ := q
          have h112 : w2 11 = ai 3 row := (hk2 11 (by omega)).trans h11
          rw [← eL] at hG2 ⊢
          simp (decide := true) only [hG2.1, h112, BmCi_tableNode, BmCi_isConstant, sl2, sl4, an15, sr4 (d := t) (by omega), hmod, EE, L0, L1, H0, H1, vp_in, EV, EW, CT, ev_o, ev_is, ev_gd, List.length_cons, List.length_nil, Nat.reduceLT, Nat.reduceAdd, Nat.reduceEqDiff, Nat.reduceLeDiff, Int32.reduceLT, Int32.reduceLE, Int32.reduceSub, Int32.reduceToNatClampNeg, reduceIte, true_and, and_true, true_or, or_true, or_self, or_false, not_true_eq_false, not_false_eq_true, false_imp_iff, true_imp_iff, implies_true]
          have hG3 : GW w2 oH.2 := by rw [eH]; exact hG2
          refine cx_cs1 4 0 0 (by decide) (c_Ci_joinHalves (lo := 2) (hi := 0) (l := oL.1) (h := oH.1) hG3 hH.1 (by have := hL.2.2.1; have := hH.2.2.1; omega) ((hz2.mono hL.2.1).mono hH.2.1) (Or.inr (Or.inr ⟨rfl, rfl, (hL.2.2.2.1 rfl).mono hH.2.1⟩)) (Or.inl ⟨rfl, rfl, rfl⟩)) fun r w4 q => ?_
          obtain ⟨rfl, hG4, hk4⟩ := q
          simp (decide := true) only [BmCi_tableNode, EV, EW, CT, ev_o, ev_is, ev_gd, List.length_cons, List.length_nil, Nat.reduceLT, Nat.reduceAdd, Nat.reduceEqDiff, Nat.reduceLeDiff, Int32.reduceLT, Int32.reduceLE, Int32.reduceSub, Int32.reduceToNatClampNeg, reduceIte, true_and, and_true, true_or, or_true, or_self, or_false, not_true_eq_false, not_false_eq_true, false_imp_iff, true_imp_iff, implies_true]
          exact GQ.of hk2 ⟨rfl, hG4, hk4⟩
        · by_cases b1 : t / 16 = 15
          · have EE : (nI (t % 16) = nI (t / 16)) = False := eE.trans (eq_false hab)
            have L0 : (nI (t % 16) = 0) = False := l0.trans (eq_false a0)
            have L1 : (nI (t % 16) = 15) = False := l1.trans (eq_false a1)
            have H0 : (nI (t / 16) = 0) = False := g0.trans (eq_false b0)
            have H1 : (nI (t / 16) = 15) = True := g1.trans (eq_true b1)
            have fl : flg (t % 16) 15 = 2 := by unfold flg; rw [if_neg a0, if_neg a1]
            have fh : flg (t / 16) 15 = 1 := by unfold flg; rw [if_neg b0, if_pos b1]
            rw [fl] at hL eL0
            rw [fh] at hH eH0
            have eL : oL = tab2 2 3 G (row 0) (row 1) (t % 16) := eL0
            have eH : oH = (0, oL.2) := eH0
            clear eL0 eH0
            rw [fl, fh]
            simp (decide := true) only [h1, h11, BmCi_tableNode, BmCi_isConstant, sl2, sl4, an15, sr4 (d := t) (by omega), hmod, EE, L0, L1, H0, H1, vp_in, EV, EW, CT, ev_o, ev_is, ev_gd, List.length_cons, List.length_nil, Nat.reduceLT, Nat.reduceAdd, Nat.reduceEqDiff, Nat.reduceLeDiff, Int32.reduceLT, Int32.reduceLE, Int32.reduceSub, Int32.reduceToNatClampNeg, reduceIte, true_and, and_true, true_or, or_true, or_self, or_false, not_true_eq_false, not_false_eq_true, false_imp_iff, true_imp_iff, implies_true]
            refine cx_cs1 6 0 0 (by decide) (c_Ci_table2 hG hW (by omega) h11 hz0 hz1 (by omega) (by omega)) fun r w2 q => ?_
            obtain ⟨rfl, hG2, hk2⟩ := q
            have h112 : w2 11 = ai 3 row := (hk2 11 (by omega)).trans h11
            rw [← eL] at hG2 ⊢
            simp (decide := true) only [hG2.1, h112, BmCi_tableNode, BmCi_isConstant, sl2, sl4, an15, sr4 (d := t) (by omega), hmod, EE, L0, L1, H0, H1, vp_in, EV, EW, CT, ev_o, ev_is, ev_gd, List.length_cons, List.length_nil, Nat.reduceLT, Nat.reduceAdd, Nat.reduceEqDiff, Nat.reduceLeDiff, Int32.reduceLT, Int32.reduceLE, Int32.reduceSub, Int32.reduceToNatClampNeg, reduceIte, true_and, and_true, true_or, or_true, or_self, or_false, not_true_eq_false, not_false_eq_true, false_imp_iff, true_imp_iff, implies_true]
            have hG3 : GW w2 oH.2 := by rw [eH]; exact hG2
            refine cx_cs1 4 0 0 (by decide) (c_Ci_joinHalves (lo := 2) (hi := 1) (l := oL.1) (h := oH.1) hG3 hH.1 (by have := hL.2.2.1; have := hH.2.2.1; omega) ((hz2.mono hL.2.1).mono hH.2.1) (Or.inr (Or.inr ⟨rfl, rfl, (hL.2.2.2.1 rfl).mono hH.2.1⟩)) (Or.inr (Or.inl ⟨rfl, rfl, rfl⟩))) fun r w4 q => ?_
            obtain ⟨rfl, hG4, hk4⟩ := q
            simp (decide := true) only [BmCi_tableNode, EV, EW, CT, ev_o, ev_is, ev_gd, List.length_cons, List.length_nil, Nat.reduceLT, Nat.reduceAdd, Nat.reduceEqDiff, Nat.reduceLeDiff, Int32.reduceLT, Int32.reduceLE, Int32.reduceSub, Int32.reduceToNatClampNeg, reduceIte, true_and, and_true, true_or, or_true, or_self, or_false, not_true_eq_false, not_false_eq_true, false_imp_iff, true_imp_iff, implies_true]
            exact GQ.of hk2 ⟨rfl, hG4, hk4⟩
          · have EE : (nI (t % 16) = nI (t / 16)) = False := eE.trans (eq_false hab)
            have L0 : (nI (t % 16) = 0) = False := l0.trans (eq_false a0)
            have L1 : (nI (t % 16) = 15) = False := l1.trans (eq_false a1)
            have H0 : (nI (t / 16) = 0) = False := g0.trans (eq_false b0)
            have H1 : (nI (t / 16) = 15) = False := g1.trans (eq_false b1)
            have fl : flg (t % 16) 15 = 2 := by unfold flg; rw [if_neg a0, if_neg a1]
            have fh : flg (t / 16) 15 = 2 := by unfold flg; rw [if_neg b0, if_neg b1]
            rw [fl] at hL eL0
            rw [fh] at hH eH0
            have eL : oL = tab2 2 3 G (row 0) (row 1) (t % 16) := eL0
            have eH : oH = tab2 2 3 oL.2 (row 0) (row 1) (t / 16) := eH0
            clear eL0 eH0
            rw [fl, fh]
            simp (decide := true) only [h1, h11, BmCi_tableNode, BmCi_isConstant, sl2, sl4, an15, sr4 (d := t) (by omega), hmod, EE, L0, L1, H0, H1, vp_in, EV, EW, CT, ev_o, ev_is, ev_gd, List.length_cons, List.length_nil, Nat.reduceLT, Nat.reduceAdd, Nat.reduceEqDiff, Nat.reduceLeDiff, Int32.reduceLT, Int32.reduceLE, Int32.reduceSub, Int32.reduceToNatClampNeg, reduceIte, true_and, and_true, true_or, or_true, or_self, or_false, not_true_eq_false, not_false_eq_true, false_imp_iff, true_imp_iff, implies_true]
            refine cx_cs1 6 0 0 (by decide) (c_Ci_table2 hG hW (by omega) h11 hz0 hz1 (by omega) (by omega)) fun r w2 q => ?_
            obtain ⟨rfl, hG2, hk2⟩ := q
            have h112 : w2 11 = ai 3 row := (hk2 11 (by omega)).trans h11
            rw [← eL] at hG2 ⊢
            simp (decide := true) only [hG2.1, h112, BmCi_tableNode, BmCi_isConstant, sl2, sl4, an15, sr4 (d := t) (by omega), hmod, EE, L0, L1, H0, H1, vp_in, EV, EW, CT, ev_o, ev_is, ev_gd, List.length_cons, List.length_nil, Nat.reduceLT, Nat.reduceAdd, Nat.reduceEqDiff, Nat.reduceLeDiff, Int32.reduceLT, Int32.reduceLE, Int32.reduceSub, Int32.reduceToNatClampNeg, reduceIte, true_and, and_true, true_or, or_true, or_self, or_false, not_true_eq_false, not_false_eq_true, false_imp_iff, true_imp_iff, implies_true]
            refine cx_cs1 6 0 0 (by decide) (c_Ci_table2 hG2 hL.1 (by have := hL.2.2.1; omega) h112 (hz0.mono hL.2.1) (hz1.mono hL.2.1) (by omega) (by omega)) fun r w3 q => ?_
            obtain ⟨rfl, hG3, hk3⟩ := q
            have h113 : w3 11 = ai 3 row := (hk3 11 (by omega)).trans h112
            rw [← eH] at hG3 ⊢
            simp (decide := true) only [hG3.1, h113, BmCi_tableNode, BmCi_isConstant, sl2, sl4, an15, sr4 (d := t) (by omega), hmod, EE, L0, L1, H0, H1, vp_in, EV, EW, CT, ev_o, ev_is, ev_gd, List.length_cons, List.length_nil, Nat.reduceLT, Nat.reduceAdd, Nat.reduceEqDiff, Nat.reduceLeDiff, Int32.reduceLT, Int32.reduceLE, Int32.reduceSub, Int32.reduceToNatClampNeg, reduceIte, true_and, and_true, true_or, or_true, or_self, or_false, not_true_eq_false, not_false_eq_true, false_imp_iff, true_imp_iff, implies_true]
            refine cx_cs1 4 0 0 (by decide) (c_Ci_joinHalves (lo := 2) (hi := 2) (l := oL.1) (h := oH.1) hG3 hH.1 (by have := hL.2.2.1; have := hH.2.2.1; omega) ((hz2.mono hL.2.1).mono hH.2.1) (Or.inr (Or.inr ⟨rfl, rfl, (hL.2.2.2.1 rfl).mono hH.2.1⟩)) (Or.inr (Or.inr ⟨rfl, rfl, hH.2.2.2.1 rfl⟩))) fun r w4 q => ?_
            obtain ⟨rfl, hG4, hk4⟩ := q
            simp (decide := true) only [BmCi_tableNode, EV, EW, CT, ev_o, ev_is, ev_gd, List.length_cons, List.length_nil, Nat.reduceLT, Nat.reduceAdd, Nat.reduceEqDiff, Nat.reduceLeDiff, Int32.reduceLT, Int32.reduceLE, Int32.reduceSub, Int32.reduceToNatClampNeg, reduceIte, true_and, and_true, true_or, or_true, or_self, or_false, not_true_eq_false, not_false_eq_true, false_imp_iff, true_imp_iff, implies_true]
            exact GQ.of hk2 (GQ.of hk3 ⟨rfl, hG4, hk4⟩)
