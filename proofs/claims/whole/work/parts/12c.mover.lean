/-! The reference's nodes over one, two and three nets. Printed by gen_over.py. -/
set_option maxHeartbeats 4000000 in
theorem c_M_over1 {x : List Int32} {w : cx_W} {G : Gr} {no na : Nat → Int32} {i0 t : Nat} (hG : MW x w G no) (hW : WFG 3 2 G) (hn : G.1 + 4 ≤ 48) (h47 : w 47 = ai 40 na) (hi0 : i0 < 40) (hz0 : isN G.1 (na i0)) (ht : t < 4) :
    cx_MC mM_overOne 5 0 0 [.ref 45, .int (nI i0), .int (nI t)] w 87 (NQ x w G.1 no (tab1 3 2 G (na i0) t)) := by
  have h1 := hG.1
  have v0 : vp_in (nI i0) 40 := nI_in hi0 (by decide)
  refine cx_met 60 mM_overOne_ok rfl ?_
  show cx_vc 60 none mM_overOne 5 0 0 _ _ 0 [some (.ref 45), some (.int (nI i0)), some (.int (nI t))] [] w (87, 0, 0)
  simp (decide := true) only [BmM_overOne, h1, h47, v0, an1, sr1 (d := t) (by omega), nI_clamp (n := i0) (by omega), EV, EW, CT, ev_o, ev_is, ev_gd, List.length_cons, List.length_nil, Nat.reduceLT, Nat.reduceAdd, Nat.reduceEqDiff, Nat.reduceLeDiff, Int32.reduceLT, Int32.reduceLE, Int32.reduceToNatClampNeg, reduceIte, true_and, and_true, true_or, or_true, or_self, or_false, not_true_eq_false, not_false_eq_true, false_imp_iff, true_imp_iff, implies_true]
  refine cx_cs1 4 0 0 (by decide) (c_M_join (lo := t % 2) (hi := t / 2) (l := 0) (h := 0) hG hW hn hz0 (by omega) (by omega) (by omega) (by omega)) fun r w2 q => ?_
  obtain ⟨rfl, q2⟩ := q
  simp (decide := true) only [BmM_overOne, EV, EW, CT, ev_o, ev_is, ev_gd, List.length_cons, List.length_nil, Nat.reduceLT, Nat.reduceAdd, Nat.reduceEqDiff, Nat.reduceLeDiff, Int32.reduceLT, Int32.reduceLE, Int32.reduceToNatClampNeg, reduceIte, true_and, and_true, true_or, or_true, or_self, or_false, not_true_eq_false, not_false_eq_true, false_imp_iff, true_imp_iff, implies_true]
  exact ⟨rfl, q2⟩
set_option maxHeartbeats 4000000 in
theorem c_M_over2 {x : List Int32} {w : cx_W} {G : Gr} {no na : Nat → Int32} {i0 i1 t : Nat} (hG : MW x w G no) (hW : WFG 3 2 G) (hn : G.1 + 6 ≤ 48) (h47 : w 47 = ai 40 na) (hi0 : i0 < 40) (hi1 : i1 < 40) (hz0 : isN G.1 (na i0)) (hz1 : isN G.1 (na i1)) (ht0 : 0 < t) (ht : t < 15) :
    cx_MC mM_overTwo 6 0 0 [.ref 45, .int (nI i0), .int (nI i1), .int (nI t)] w 87 (NQ x w G.1 no (tab2 3 2 G (na i0) (na i1) t)) := by
  have ne : ¬ (3 : Int32) = 2 := by decide
  have h1 := hG.1
  have v0 : vp_in (nI i0) 40 := nI_in hi0 (by decide)
  have v1 : vp_in (nI i1) 40 := nI_in hi1 (by decide)
  refine cx_met 120 mM_overTwo_ok rfl ?_
  show cx_vc 120 none mM_overTwo 6 0 0 _ _ 0 [some (.ref 45), some (.int (nI i0)), some (.int (nI i1)), some (.int (nI t)), none, none, none, none] [] w (87, 0, 0)
  have eE := eqN (a := t % 4) (b := t / 4) (by omega) (by omega)
  have hL := tb2L_grown (t := t) ne hW (by omega) hz0
  have hH := tb2H_grown (t := t) ne hW (by omega) hz0 (by omega)
  by_cases hab : t % 4 = t / 4
  · have EE : (nI (t % 4) = nI (t / 4)) = True := eE.trans (eq_true hab)
    simp (decide := true) only [BmM_overTwo, BmM_flat, h1, h47, an3, sr2 (d := t) (by omega), EE, nI_clamp (n := i0) (by omega), nI_clamp (n := i1) (by omega), v0, v1, EV, EW, CT, ev_o, ev_is, ev_gd, List.length_cons, List.length_nil, Nat.reduceLT, Nat.reduceAdd, Nat.reduceEqDiff, Nat.reduceLeDiff, Int32.reduceLT, Int32.reduceLE, Int32.reduceToNatClampNeg, reduceIte, true_and, and_true, true_or, or_true, or_self, or_false, not_true_eq_false, not_false_eq_true, false_imp_iff, true_imp_iff, implies_true]
    have ep : tab2 3 2 G (na i0) (na i1) t = tab1 3 2 G (na i0) (t % 4) := by
      unfold tab2
      rw [if_pos hab]
    rw [ep]
    refine cx_cs1 5 0 0 (by decide) (c_M_over1 hG hW (by omega) h47 hi0 hz0 (by omega)) fun r w2 q => ?_
    obtain ⟨rfl, q2⟩ := q
    simp (decide := true) only [BmM_overTwo, EV, EW, CT, ev_o, ev_is, ev_gd, List.length_cons, List.length_nil, Nat.reduceLT, Nat.reduceAdd, Nat.reduceEqDiff, Nat.reduceLeDiff, Int32.reduceLT, Int32.reduceLE, Int32.reduceToNatClampNeg, reduceIte, true_and, and_true, true_or, or_true, or_self, or_false, not_true_eq_false, not_false_eq_true, false_imp_iff, true_imp_iff, implies_true]
    exact ⟨rfl, q2⟩
  · have ep : tab2 3 2 G (na i0) (na i1) t = joinN 3 2 (tb2H 3 2 G (na i0) t).2 (na i1) (flg (t % 4) 3) (tb2L 3 2 G (na i0) t).1 (flg (t / 4) 3) (tb2H 3 2 G (na i0) t).1 := by
      unfold tab2
      rw [if_neg hab]
    rw [ep]
    have eL0 : tb2L 3 2 G (na i0) t = if flg (t % 4) 3 = 2 then tab1 3 2 G (na i0) (t % 4) else (0, G) := rfl
    have eH0 : tb2H 3 2 G (na i0) t = if flg (t / 4) 3 = 2 then tab1 3 2 (tb2L 3 2 G (na i0) t).2 (na i0) (t / 4) else (0, (tb2L 3 2 G (na i0) t).2) := rfl
    clear ep
    generalize tb2H 3 2 G (na i0) t = oH at *
    generalize tb2L 3 2 G (na i0) t = oL at *
    have l0 := eqc (a := t % 4) (c := 0) (x := 0) rfl (by omega) (by decide)
    have l1 := eqc (a := t % 4) (c := 3) (x := 3) rfl (by omega) (by decide)
    have g0 := eqc (a := t / 4) (c := 0) (x := 0) rfl (by omega) (by decide)
    have g1 := eqc (a := t / 4) (c := 3) (x := 3) rfl (by omega) (by decide)
    have EE : (nI (t % 4) = nI (t / 4)) = False := eE.trans (eq_false hab)
    by_cases a0 : t % 4 = 0
    · have b0 : ¬ t / 4 = 0 := by omega
      by_cases b1 : t / 4 = 3
      · have fl : flg (t % 4) 3 = 0 := by unfold flg; rw [if_pos a0]
        have fh : flg (t / 4) 3 = 1 := by unfold flg; rw [if_neg b0, if_pos b1]
        have L0 : (nI (t % 4) = 0) = True := l0.trans (eq_true a0)
        have L1 : (nI (t % 4) = 3) = False := l1.trans (eq_false (by omega))
        have H0 : (nI (t / 4) = 0) = False := g0.trans (eq_false b0)
        have H1 : (nI (t / 4) = 3) = True := g1.trans (eq_true b1)
        rw [fl] at hL eL0
        rw [fh] at hH eH0
        have eL : oL = (0, G) := eL0
        have eH : oH = (0, oL.2) := eH0
        clear eL0 eH0
        rw [fl, fh]
        simp (decide := true) only [h1, h47, BmM_overTwo, BmM_flat, an3, sr2 (d := t) (by omega), EE, L0, L1, H0, H1, nI_clamp (n := i0) (by omega), nI_clamp (n := i1) (by omega), v0, v1, EV, EW, CT, ev_o, ev_is, ev_gd, List.length_cons, List.length_nil, Nat.reduceLT, Nat.reduceAdd, Nat.reduceEqDiff, Nat.reduceLeDiff, Int32.reduceLT, Int32.reduceLE, Int32.reduceToNatClampNeg, reduceIte, true_and, and_true, true_or, or_true, or_self, or_false, not_true_eq_false, not_false_eq_true, false_imp_iff, true_imp_iff, implies_true]
        subst eL
        have hG2 : MW x w ((0, G) : Int32 × Gr).2 no := hG
        subst eH
        have hG3 : MW x w ((0, ((0, G) : Int32 × Gr).2) : Int32 × Gr).2 no := hG2
        refine cx_cs1 4 0 0 (by decide) (c_M_join (lo := 0) (hi := 1) (l := ((0, G) : Int32 × Gr).1) (h := ((0, ((0, G) : Int32 × Gr).2) : Int32 × Gr).1) hG3 hH.1 (by have := hL.2.2.1; have := hH.2.2.1; omega) ((hz1.mono hL.2.1).mono hH.2.1) (by decide) (by decide) (fun q => absurd q (by decide)) (fun q => absurd q (by decide))) fun r w4 q => ?_
        obtain ⟨rfl, q4⟩ := q
        simp (decide := true) only [BmM_overTwo, EV, EW, CT, ev_o, ev_is, ev_gd, List.length_cons, List.length_nil, Nat.reduceLT, Nat.reduceAdd, Nat.reduceEqDiff, Nat.reduceLeDiff, Int32.reduceLT, Int32.reduceLE, Int32.reduceToNatClampNeg, reduceIte, true_and, and_true, true_or, or_true, or_self, or_false, not_true_eq_false, not_false_eq_true, false_imp_iff, true_imp_iff, implies_true]
        exact ⟨rfl, q4⟩
      · have fl : flg (t % 4) 3 = 0 := by unfold flg; rw [if_pos a0]
        have fh : flg (t / 4) 3 = 2 := by unfold flg; rw [if_neg b0, if_neg b1]
        have L0 : (nI (t % 4) = 0) = True := l0.trans (eq_true a0)
        have L1 : (nI (t % 4) = 3) = False := l1.trans (eq_false (by omega))
        have H0 : (nI (t / 4) = 0) = False := g0.trans (eq_false b0)
        have H1 : (nI (t / 4) = 3) = False := g1.trans (eq_false b1)
        rw [fl] at hL eL0
        rw [fh] at hH eH0
        have eL : oL = (0, G) := eL0
        have eH : oH = tab1 3 2 oL.2 (na i0) (t / 4) := eH0
        clear eL0 eH0
        rw [fl, fh]
        simp (decide := true) only [h1, h47, BmM_overTwo, BmM_flat, an3, sr2 (d := t) (by omega), EE, L0, L1, H0, H1, nI_clamp (n := i0) (by omega), nI_clamp (n := i1) (by omega), v0, v1, EV, EW, CT, ev_o, ev_is, ev_gd, List.length_cons, List.length_nil, Nat.reduceLT, Nat.reduceAdd, Nat.reduceEqDiff, Nat.reduceLeDiff, Int32.reduceLT, Int32.reduceLE, Int32.reduceToNatClampNeg, reduceIte, true_and, and_true, true_or, or_true, or_self, or_false, not_true_eq_false, not_false_eq_true, false_imp_iff, true_imp_iff, implies_true]
        subst eL
        have hG2 : MW x w ((0, G) : Int32 × Gr).2 no := hG
        refine cx_cs1 5 0 0 (by decide) (c_M_over1 hG2 hL.1 (by have := hL.2.2.1; omega) h47 hi0 (hz0.mono hL.2.1) (by omega)) fun r w3 q => ?_
        rw [← eH] at q
        obtain ⟨rfl, ⟨no3, hG3, e3⟩, hk3⟩ := q
        have h473 : w3 47 = ai 40 na := (hk3 47 (by unfold mfr; omega)).trans h47
        simp (decide := true) only [hG3.1, h473, BmM_overTwo, BmM_flat, an3, sr2 (d := t) (by omega), EE, L0, L1, H0, H1, nI_clamp (n := i0) (by omega), nI_clamp (n := i1) (by omega), v0, v1, EV, EW, CT, ev_o, ev_is, ev_gd, List.length_cons, List.length_nil, Nat.reduceLT, Nat.reduceAdd, Nat.reduceEqDiff, Nat.reduceLeDiff, Int32.reduceLT, Int32.reduceLE, Int32.reduceToNatClampNeg, reduceIte, true_and, and_true, true_or, or_true, or_self, or_false, not_true_eq_false, not_false_eq_true, false_imp_iff, true_imp_iff, implies_true]
        refine cx_cs1 4 0 0 (by decide) (c_M_join (lo := 0) (hi := 2) (l := ((0, G) : Int32 × Gr).1) (h := oH.1) hG3 hH.1 (by have := hL.2.2.1; have := hH.2.2.1; omega) ((hz1.mono hL.2.1).mono hH.2.1) (by decide) (by decide) (fun q => absurd q (by decide)) (fun _ => hH.2.2.2.1 rfl)) fun r w4 q => ?_
        obtain ⟨rfl, q4⟩ := q
        simp (decide := true) only [BmM_overTwo, EV, EW, CT, ev_o, ev_is, ev_gd, List.length_cons, List.length_nil, Nat.reduceLT, Nat.reduceAdd, Nat.reduceEqDiff, Nat.reduceLeDiff, Int32.reduceLT, Int32.reduceLE, Int32.reduceToNatClampNeg, reduceIte, true_and, and_true, true_or, or_true, or_self, or_false, not_true_eq_false, not_false_eq_true, false_imp_iff, true_imp_iff, implies_true]
        exact NQ.of hk3 hH.2.1 e3 ⟨rfl, q4⟩
    · by_cases a1 : t % 4 = 3
      · by_cases b0 : t / 4 = 0
        · have fl : flg (t % 4) 3 = 1 := by unfold flg; rw [if_neg a0, if_pos a1]
          have fh : flg (t / 4) 3 = 0 := by unfold flg; rw [if_pos b0]
          have L0 : (nI (t % 4) = 0) = False := l0.trans (eq_false a0)
          have L1 : (nI (t % 4) = 3) = True := l1.trans (eq_true a1)
          have H0 : (nI (t / 4) = 0) = True := g0.trans (eq_true b0)
          have H1 : (nI (t / 4) = 3) = False := g1.trans (eq_false (by omega))
          rw [fl] at hL eL0
          rw [fh] at hH eH0
          have eL : oL = (0, G) := eL0
          have eH : oH = (0, oL.2) := eH0
          clear eL0 eH0
          rw [fl, fh]
          simp (decide := true) only [h1, h47, BmM_overTwo, BmM_flat, an3, sr2 (d := t) (by omega), EE, L0, L1, H0, H1, nI_clamp (n := i0) (by omega), nI_clamp (n := i1) (by omega), v0, v1, EV, EW, CT, ev_o, ev_is, ev_gd, List.length_cons, List.length_nil, Nat.reduceLT, Nat.reduceAdd, Nat.reduceEqDiff, Nat.reduceLeDiff, Int32.reduceLT, Int32.reduceLE, Int32.reduceToNatClampNeg, reduceIte, true_and, and_true, true_or, or_true, or_self, or_false, not_true_eq_false, not_false_eq_true, false_imp_iff, true_imp_iff, implies_true]
          subst eL
          have hG2 : MW x w ((0, G) : Int32 × Gr).2 no := hG
          subst eH
          have hG3 : MW x w ((0, ((0, G) : Int32 × Gr).2) : Int32 × Gr).2 no := hG2
          refine cx_cs1 4 0 0 (by decide) (c_M_join (lo := 1) (hi := 0) (l := ((0, G) : Int32 × Gr).1) (h := ((0, ((0, G) : Int32 × Gr).2) : Int32 × Gr).1) hG3 hH.1 (by have := hL.2.2.1; have := hH.2.2.1; omega) ((hz1.mono hL.2.1).mono hH.2.1) (by decide) (by decide) (fun q => absurd q (by decide)) (fun q => absurd q (by decide))) fun r w4 q => ?_
          obtain ⟨rfl, q4⟩ := q
          simp (decide := true) only [BmM_overTwo, EV, EW, CT, ev_o, ev_is, ev_gd, List.length_cons, List.length_nil, Nat.reduceLT, Nat.reduceAdd, Nat.reduceEqDiff, Nat.reduceLeDiff, Int32.reduceLT, Int32.reduceLE, Int32.reduceToNatClampNeg, reduceIte, true_and, and_true, true_or, or_true, or_self, or_false, not_true_eq_false, not_false_eq_true, false_imp_iff, true_imp_iff, implies_true]
          exact ⟨rfl, q4⟩
        · have b1 : ¬ t / 4 = 3 := by omega
          have fl : flg (t % 4) 3 = 1 := by unfold flg; rw [if_neg a0, if_pos a1]
          have fh : flg (t / 4) 3 = 2 := by unfold flg; rw [if_neg b0, if_neg b1]
          have L0 : (nI (t % 4) = 0) = False := l0.trans (eq_false a0)
          have L1 : (nI (t % 4) = 3) = True := l1.trans (eq_true a1)
          have H0 : (nI (t / 4) = 0) = False := g0.trans (eq_false b0)
          have H1 : (nI (t / 4) = 3) = False := g1.trans (eq_false b1)
          rw [fl] at hL eL0
          rw [fh] at hH eH0
          have eL : oL = (0, G) := eL0
          have eH : oH = tab1 3 2 oL.2 (na i0) (t / 4) := eH0
          clear eL0 eH0
          rw [fl, fh]
          simp (decide := true) only [h1, h47, BmM_overTwo, BmM_flat, an3, sr2 (d := t) (by omega), EE, L0, L1, H0, H1, nI_clamp (n := i0) (by omega), nI_clamp (n := i1) (by omega), v0, v1, EV, EW, CT, ev_o, ev_is, ev_gd, List.length_cons, List.length_nil, Nat.reduceLT, Nat.reduceAdd, Nat.reduceEqDiff, Nat.reduceLeDiff, Int32.reduceLT, Int32.reduceLE, Int32.reduceToNatClampNeg, reduceIte, true_and, and_true, true_or, or_true, or_self, or_false, not_true_eq_false, not_false_eq_true, false_imp_iff, true_imp_iff, implies_true]
          subst eL
          have hG2 : MW x w ((0, G) : Int32 × Gr).2 no := hG
          refine cx_cs1 5 0 0 (by decide) (c_M_over1 hG2 hL.1 (by have := hL.2.2.1; omega) h47 hi0 (hz0.mono hL.2.1) (by omega)) fun r w3 q => ?_
          rw [← eH] at q
          obtain ⟨rfl, ⟨no3, hG3, e3⟩, hk3⟩ := q
          have h473 : w3 47 = ai 40 na := (hk3 47 (by unfold mfr; omega)).trans h47
          simp (decide := true) only [hG3.1, h473, BmM_overTwo, BmM_flat, an3, sr2 (d := t) (by omega), EE, L0, L1, H0, H1, nI_clamp (n := i0) (by omega), nI_clamp (n := i1) (by omega), v0, v1, EV, EW, CT, ev_o, ev_is, ev_gd, List.length_cons, List.length_nil, Nat.reduceLT, Nat.reduceAdd, Nat.reduceEqDiff, Nat.reduceLeDiff, Int32.reduceLT, Int32.reduceLE, Int32.reduceToNatClampNeg, reduceIte, true_and, and_true, true_or, or_true, or_self, or_false, not_true_eq_false, not_false_eq_true, false_imp_iff, true_imp_iff, implies_true]
          refine cx_cs1 4 0 0 (by decide) (c_M_join (lo := 1) (hi := 2) (l := ((0, G) : Int32 × Gr).1) (h := oH.1) hG3 hH.1 (by have := hL.2.2.1; have := hH.2.2.1; omega) ((hz1.mono hL.2.1).mono hH.2.1) (by decide) (by decide) (fun q => absurd q (by decide)) (fun _ => hH.2.2.2.1 rfl)) fun r w4 q => ?_
          obtain ⟨rfl, q4⟩ := q
          simp (decide := true) only [BmM_overTwo, EV, EW, CT, ev_o, ev_is, ev_gd, List.length_cons, List.length_nil, Nat.reduceLT, Nat.reduceAdd, Nat.reduceEqDiff, Nat.reduceLeDiff, Int32.reduceLT, Int32.reduceLE, Int32.reduceToNatClampNeg, reduceIte, true_and, and_true, true_or, or_true, or_self, or_false, not_true_eq_false, not_false_eq_true, false_imp_iff, true_imp_iff, implies_true]
          exact NQ.of hk3 hH.2.1 e3 ⟨rfl, q4⟩
      · by_cases b0 : t / 4 = 0
        · have fl : flg (t % 4) 3 = 2 := by unfold flg; rw [if_neg a0, if_neg a1]
          have fh : flg (t / 4) 3 = 0 := by unfold flg; rw [if_pos b0]
          have L0 : (nI (t % 4) = 0) = False := l0.trans (eq_false a0)
          have L1 : (nI (t % 4) = 3) = False := l1.trans (eq_false a1)
          have H0 : (nI (t / 4) = 0) = True := g0.trans (eq_true b0)
          have H1 : (nI (t / 4) = 3) = False := g1.trans (eq_false (by omega))
          rw [fl] at hL eL0
          rw [fh] at hH eH0
          have eL : oL = tab1 3 2 G (na i0) (t % 4) := eL0
          have eH : oH = (0, oL.2) := eH0
          clear eL0 eH0
          rw [fl, fh]
          simp (decide := true) only [h1, h47, BmM_overTwo, BmM_flat, an3, sr2 (d := t) (by omega), EE, L0, L1, H0, H1, nI_clamp (n := i0) (by omega), nI_clamp (n := i1) (by omega), v0, v1, EV, EW, CT, ev_o, ev_is, ev_gd, List.length_cons, List.length_nil, Nat.reduceLT, Nat.reduceAdd, Nat.reduceEqDiff, Nat.reduceLeDiff, Int32.reduceLT, Int32.reduceLE, Int32.reduceToNatClampNeg, reduceIte, true_and, and_true, true_or, or_true, or_self, or_false, not_true_eq_false, not_false_eq_true, false_imp_iff, true_imp_iff, implies_true]
          refine cx_cs1 5 0 0 (by decide) (c_M_over1 hG hW (by omega) h47 hi0 hz0 (by omega)) fun r w2 q => ?_
          rw [← eL] at q
          obtain ⟨rfl, ⟨no2, hG2, e2⟩, hk2⟩ := q
          have h472 : w2 47 = ai 40 na := (hk2 47 (by unfold mfr; omega)).trans h47
          simp (decide := true) only [hG2.1, h472, BmM_overTwo, BmM_flat, an3, sr2 (d := t) (by omega), EE, L0, L1, H0, H1, nI_clamp (n := i0) (by omega), nI_clamp (n := i1) (by omega), v0, v1, EV, EW, CT, ev_o, ev_is, ev_gd, List.length_cons, List.length_nil, Nat.reduceLT, Nat.reduceAdd, Nat.reduceEqDiff, Nat.reduceLeDiff, Int32.reduceLT, Int32.reduceLE, Int32.reduceToNatClampNeg, reduceIte, true_and, and_true, true_or, or_true, or_self, or_false, not_true_eq_false, not_false_eq_true, false_imp_iff, true_imp_iff, implies_true]
          subst eH
          have hG3 : MW x w2 ((0, oL.2) : Int32 × Gr).2 no2 := hG2
          refine cx_cs1 4 0 0 (by decide) (c_M_join (lo := 2) (hi := 0) (l := oL.1) (h := ((0, oL.2) : Int32 × Gr).1) hG3 hH.1 (by have := hL.2.2.1; have := hH.2.2.1; omega) ((hz1.mono hL.2.1).mono hH.2.1) (by decide) (by decide) (fun _ => (hL.2.2.2.1 rfl).mono hH.2.1) (fun q => absurd q (by decide))) fun r w4 q => ?_
          obtain ⟨rfl, q4⟩ := q
          simp (decide := true) only [BmM_overTwo, EV, EW, CT, ev_o, ev_is, ev_gd, List.length_cons, List.length_nil, Nat.reduceLT, Nat.reduceAdd, Nat.reduceEqDiff, Nat.reduceLeDiff, Int32.reduceLT, Int32.reduceLE, Int32.reduceToNatClampNeg, reduceIte, true_and, and_true, true_or, or_true, or_self, or_false, not_true_eq_false, not_false_eq_true, false_imp_iff, true_imp_iff, implies_true]
          exact NQ.of hk2 hL.2.1 e2 ⟨rfl, q4⟩
        · by_cases b1 : t / 4 = 3
          · have fl : flg (t % 4) 3 = 2 := by unfold flg; rw [if_neg a0, if_neg a1]
            have fh : flg (t / 4) 3 = 1 := by unfold flg; rw [if_neg b0, if_pos b1]
            have L0 : (nI (t % 4) = 0) = False := l0.trans (eq_false a0)
            have L1 : (nI (t % 4) = 3) = False := l1.trans (eq_false a1)
            have H0 : (nI (t / 4) = 0) = False := g0.trans (eq_false b0)
            have H1 : (nI (t / 4) = 3) = True := g1.trans (eq_true b1)
            rw [fl] at hL eL0
            rw [fh] at hH eH0
            have eL : oL = tab1 3 2 G (na i0) (t % 4) := eL0
            have eH : oH = (0, oL.2) := eH0
            clear eL0 eH0
            rw [fl, fh]
            simp (decide := true) only [h1, h47, BmM_overTwo, BmM_flat, an3, sr2 (d := t) (by omega), EE, L0, L1, H0, H1, nI_clamp (n := i0) (by omega), nI_clamp (n := i1) (by omega), v0, v1, EV, EW, CT, ev_o, ev_is, ev_gd, List.length_cons, List.length_nil, Nat.reduceLT, Nat.reduceAdd, Nat.reduceEqDiff, Nat.reduceLeDiff, Int32.reduceLT, Int32.reduceLE, Int32.reduceToNatClampNeg, reduceIte, true_and, and_true, true_or, or_true, or_self, or_false, not_true_eq_false, not_false_eq_true, false_imp_iff, true_imp_iff, implies_true]
            refine cx_cs1 5 0 0 (by decide) (c_M_over1 hG hW (by omega) h47 hi0 hz0 (by omega)) fun r w2 q => ?_
            rw [← eL] at q
            obtain ⟨rfl, ⟨no2, hG2, e2⟩, hk2⟩ := q
            have h472 : w2 47 = ai 40 na := (hk2 47 (by unfold mfr; omega)).trans h47
            simp (decide := true) only [hG2.1, h472, BmM_overTwo, BmM_flat, an3, sr2 (d := t) (by omega), EE, L0, L1, H0, H1, nI_clamp (n := i0) (by omega), nI_clamp (n := i1) (by omega), v0, v1, EV, EW, CT, ev_o, ev_is, ev_gd, List.length_cons, List.length_nil, Nat.reduceLT, Nat.reduceAdd, Nat.reduceEqDiff, Nat.reduceLeDiff, Int32.reduceLT, Int32.reduceLE, Int32.reduceToNatClampNeg, reduceIte, true_and, and_true, true_or, or_true, or_self, or_false, not_true_eq_false, not_false_eq_true, false_imp_iff, true_imp_iff, implies_true]
            subst eH
            have hG3 : MW x w2 ((0, oL.2) : Int32 × Gr).2 no2 := hG2
            refine cx_cs1 4 0 0 (by decide) (c_M_join (lo := 2) (hi := 1) (l := oL.1) (h := ((0, oL.2) : Int32 × Gr).1) hG3 hH.1 (by have := hL.2.2.1; have := hH.2.2.1; omega) ((hz1.mono hL.2.1).mono hH.2.1) (by decide) (by decide) (fun _ => (hL.2.2.2.1 rfl).mono hH.2.1) (fun q => absurd q (by decide))) fun r w4 q => ?_
            obtain ⟨rfl, q4⟩ := q
            simp (decide := true) only [BmM_overTwo, EV, EW, CT, ev_o, ev_is, ev_gd, List.length_cons, List.length_nil, Nat.reduceLT, Nat.reduceAdd, Nat.reduceEqDiff, Nat.reduceLeDiff, Int32.reduceLT, Int32.reduceLE, Int32.reduceToNatClampNeg, reduceIte, true_and, and_true, true_or, or_true, or_self, or_false, not_true_eq_false, not_false_eq_true, false_imp_iff, true_imp_iff, implies_true]
            exact NQ.of hk2 hL.2.1 e2 ⟨rfl, q4⟩
          · have fl : flg (t % 4) 3 = 2 := by unfold flg; rw [if_neg a0, if_neg a1]
            have fh : flg (t / 4) 3 = 2 := by unfold flg; rw [if_neg b0, if_neg b1]
            have L0 : (nI (t % 4) = 0) = False := l0.trans (eq_false a0)
            have L1 : (nI (t % 4) = 3) = False := l1.trans (eq_false a1)
            have H0 : (nI (t / 4) = 0) = False := g0.trans (eq_false b0)
            have H1 : (nI (t / 4) = 3) = False := g1.trans (eq_false b1)
            rw [fl] at hL eL0
            rw [fh] at hH eH0
            have eL : oL = tab1 3 2 G (na i0) (t % 4) := eL0
            have eH : oH = tab1 3 2 oL.2 (na i0) (t / 4) := eH0
            clear eL0 eH0
            rw [fl, fh]
            simp (decide := true) only [h1, h47, BmM_overTwo, BmM_flat, an3, sr2 (d := t) (by omega), EE, L0, L1, H0, H1, nI_clamp (n := i0) (by omega), nI_clamp (n := i1) (by omega), v0, v1, EV, EW, CT, ev_o, ev_is, ev_gd, List.length_cons, List.length_nil, Nat.reduceLT, Nat.reduceAdd, Nat.reduceEqDiff, Nat.reduceLeDiff, Int32.reduceLT, Int32.reduceLE, Int32.reduceToNatClampNeg, reduceIte, true_and, and_true, true_or, or_true, or_self, or_false, not_true_eq_false, not_false_eq_true, false_imp_iff, true_imp_iff, implies_true]
            refine cx_cs1 5 0 0 (by decide) (c_M_over1 hG hW (by omega) h47 hi0 hz0 (by omega)) fun r w2 q => ?_
            rw [← eL] at q
            obtain ⟨rfl, ⟨no2, hG2, e2⟩, hk2⟩ := q
            have h472 : w2 47 = ai 40 na := (hk2 47 (by unfold mfr; omega)).trans h47
            simp (decide := true) only [hG2.1, h472, BmM_overTwo, BmM_flat, an3, sr2 (d := t) (by omega), EE, L0, L1, H0, H1, nI_clamp (n := i0) (by omega), nI_clamp (n := i1) (by omega), v0, v1, EV, EW, CT, ev_o, ev_is, ev_gd, List.length_cons, List.length_nil, Nat.reduceLT, Nat.reduceAdd, Nat.reduceEqDiff, Nat.reduceLeDiff, Int32.reduceLT, Int32.reduceLE, Int32.reduceToNatClampNeg, reduceIte, true_and, and_true, true_or, or_true, or_self, or_false, not_true_eq_false, not_false_eq_true, false_imp_iff, true_imp_iff, implies_true]
            refine cx_cs1 5 0 0 (by decide) (c_M_over1 hG2 hL.1 (by have := hL.2.2.1; omega) h472 hi0 (hz0.mono hL.2.1) (by omega)) fun r w3 q => ?_
            rw [← eH] at q
            obtain ⟨rfl, ⟨no3, hG3, e3⟩, hk3⟩ := q
            have h473 : w3 47 = ai 40 na := (hk3 47 (by unfold mfr; omega)).trans h472
            simp (decide := true) only [hG3.1, h473, BmM_overTwo, BmM_flat, an3, sr2 (d := t) (by omega), EE, L0, L1, H0, H1, nI_clamp (n := i0) (by omega), nI_clamp (n := i1) (by omega), v0, v1, EV, EW, CT, ev_o, ev_is, ev_gd, List.length_cons, List.length_nil, Nat.reduceLT, Nat.reduceAdd, Nat.reduceEqDiff, Nat.reduceLeDiff, Int32.reduceLT, Int32.reduceLE, Int32.reduceToNatClampNeg, reduceIte, true_and, and_true, true_or, or_true, or_self, or_false, not_true_eq_false, not_false_eq_true, false_imp_iff, true_imp_iff, implies_true]
            refine cx_cs1 4 0 0 (by decide) (c_M_join (lo := 2) (hi := 2) (l := oL.1) (h := oH.1) hG3 hH.1 (by have := hL.2.2.1; have := hH.2.2.1; omega) ((hz1.mono hL.2.1).mono hH.2.1) (by decide) (by decide) (fun _ => (hL.2.2.2.1 rfl).mono hH.2.1) (fun _ => hH.2.2.2.1 rfl)) fun r w4 q => ?_
            obtain ⟨rfl, q4⟩ := q
            simp (decide := true) only [BmM_overTwo, EV, EW, CT, ev_o, ev_is, ev_gd, List.length_cons, List.length_nil, Nat.reduceLT, Nat.reduceAdd, Nat.reduceEqDiff, Nat.reduceLeDiff, Int32.reduceLT, Int32.reduceLE, Int32.reduceToNatClampNeg, reduceIte, true_and, and_true, true_or, or_true, or_self, or_false, not_true_eq_false, not_false_eq_true, false_imp_iff, true_imp_iff, implies_true]
            exact NQ.of hk2 hL.2.1 e2 (NQ.of hk3 hH.2.1 e3 ⟨rfl, q4⟩)
set_option maxHeartbeats 4000000 in
theorem c_M_over3 {x : List Int32} {w : cx_W} {G : Gr} {no na : Nat → Int32} {i0 i1 i2 t : Nat} (hG : MW x w G no) (hW : WFG 3 2 G) (hn : G.1 + 16 ≤ 48) (h47 : w 47 = ai 40 na) (hi0 : i0 < 40) (hi1 : i1 < 40) (hi2 : i2 < 40) (hz0 : isN G.1 (na i0)) (hz1 : isN G.1 (na i1)) (hz2 : isN G.1 (na i2)) (ht0 : 0 < t) (ht : t < 255) :
    cx_MC mM_overThree 7 0 0 [.ref 45, .int (nI i0), .int (nI i1), .int (nI i2), .int (nI t)] w 87 (NQ x w G.1 no (tab3 3 2 G (na i0) (na i1) (na i2) t)) := by
  have ne : ¬ (3 : Int32) = 2 := by decide
  have h1 := hG.1
  have v0 : vp_in (nI i0) 40 := nI_in hi0 (by decide)
  have v1 : vp_in (nI i1) 40 := nI_in hi1 (by decide)
  have v2 : vp_in (nI i2) 40 := nI_in hi2 (by decide)
  refine cx_met 120 mM_overThree_ok rfl ?_
  show cx_vc 120 none mM_overThree 7 0 0 _ _ 0 [some (.ref 45), some (.int (nI i0)), some (.int (nI i1)), some (.int (nI i2)), some (.int (nI t)), none, none, none, none] [] w (87, 0, 0)
  have eE := eqN (a := t % 16) (b := t / 16) (by omega) (by omega)
  have hL := tb3L_grown (t := t) ne hW (by omega) hz0 hz1
  have hH := tb3H_grown (t := t) ne hW (by omega) hz0 hz1 (by omega)
  by_cases hab : t % 16 = t / 16
  · have EE : (nI (t % 16) = nI (t / 16)) = True := eE.trans (eq_true hab)
    simp (decide := true) only [BmM_overThree, BmM_flat, h1, h47, an15, sr4 (d := t) (by omega), EE, nI_clamp (n := i0) (by omega), nI_clamp (n := i1) (by omega), nI_clamp (n := i2) (by omega), v0, v1, v2, EV, EW, CT, ev_o, ev_is, ev_gd, List.length_cons, List.length_nil, Nat.reduceLT, Nat.reduceAdd, Nat.reduceEqDiff, Nat.reduceLeDiff, Int32.reduceLT, Int32.reduceLE, Int32.reduceToNatClampNeg, reduceIte, true_and, and_true, true_or, or_true, or_self, or_false, not_true_eq_false, not_false_eq_true, false_imp_iff, true_imp_iff, implies_true]
    have ep : tab3 3 2 G (na i0) (na i1) (na i2) t = tab2 3 2 G (na i0) (na i1) (t % 16) := by
      unfold tab3
      rw [if_pos hab]
    rw [ep]
    refine cx_cs1 6 0 0 (by decide) (c_M_over2 hG hW (by omega) h47 hi0 hi1 hz0 hz1 (by omega) (by omega)) fun r w2 q => ?_
    obtain ⟨rfl, q2⟩ := q
    simp (decide := true) only [BmM_overThree, EV, EW, CT, ev_o, ev_is, ev_gd, List.length_cons, List.length_nil, Nat.reduceLT, Nat.reduceAdd, Nat.reduceEqDiff, Nat.reduceLeDiff, Int32.reduceLT, Int32.reduceLE, Int32.reduceToNatClampNeg, reduceIte, true_and, and_true, true_or, or_true, or_self, or_false, not_true_eq_false, not_false_eq_true, false_imp_iff, true_imp_iff, implies_true]
    exact ⟨rfl, q2⟩
  · have ep : tab3 3 2 G (na i0) (na i1) (na i2) t = joinN 3 2 (tb3H 3 2 G (na i0) (na i1) t).2 (na i2) (flg (t % 16) 15) (tb3L 3 2 G (na i0) (na i1) t).1 (flg (t / 16) 15) (tb3H 3 2 G (na i0) (na i1) t).1 := by
      unfold tab3
      rw [if_neg hab]
    rw [ep]
    have eL0 : tb3L 3 2 G (na i0) (na i1) t = if flg (t % 16) 15 = 2 then tab2 3 2 G (na i0) (na i1) (t % 16) else (0, G) := rfl
    have eH0 : tb3H 3 2 G (na i0) (na i1) t = if flg (t / 16) 15 = 2 then tab2 3 2 (tb3L 3 2 G (na i0) (na i1) t).2 (na i0) (na i1) (t / 16) else (0, (tb3L 3 2 G (na i0) (na i1) t).2) := rfl
    clear ep
    generalize tb3H 3 2 G (na i0) (na i1) t = oH at *
    generalize tb3L 3 2 G (na i0) (na i1) t = oL at *
    have l0 := eqc (a := t % 16) (c := 0) (x := 0) rfl (by omega) (by decide)
    have l1 := eqc (a := t % 16) (c := 15) (x := 15) rfl (by omega) (by decide)
    have g0 := eqc (a := t / 16) (c := 0) (x := 0) rfl (by omega) (by decide)
    have g1 := eqc (a := t / 16) (c := 15) (x := 15) rfl (by omega) (by decide)
    have EE : (nI (t % 16) = nI (t / 16)) = False := eE.trans (eq_false hab)
    by_cases a0 : t % 16 = 0
    · have b0 : ¬ t / 16 = 0 := by omega
      by_cases b1 : t / 16 = 15
      · have fl : flg (t % 16) 15 = 0 := by unfold flg; rw [if_pos a0]
        have fh : flg (t / 16) 15 = 1 := by unfold flg; rw [if_neg b0, if_pos b1]
        have L0 : (nI (t % 16) = 0) = True := l0.trans (eq_true a0)
        have L1 : (nI (t % 16) = 15) = False := l1.trans (eq_false (by omega))
        have H0 : (nI (t / 16) = 0) = False := g0.trans (eq_false b0)
        have H1 : (nI (t / 16) = 15) = True := g1.trans (eq_true b1)
        rw [fl] at hL eL0
        rw [fh] at hH eH0
        have eL : oL = (0, G) := eL0
        have eH : oH = (0, oL.2) := eH0
        clear eL0 eH0
        rw [fl, fh]
        simp (decide := true) only [h1, h47, BmM_overThree, BmM_flat, an15, sr4 (d := t) (by omega), EE, L0, L1, H0, H1, nI_clamp (n := i0) (by omega), nI_clamp (n := i1) (by omega), nI_clamp (n := i2) (by omega), v0, v1, v2, EV, EW, CT, ev_o, ev_is, ev_gd, List.length_cons, List.length_nil, Nat.reduceLT, Nat.reduceAdd, Nat.reduceEqDiff, Nat.reduceLeDiff, Int32.reduceLT, Int32.reduceLE, Int32.reduceToNatClampNeg, reduceIte, true_and, and_true, true_or, or_true, or_self, or_false, not_true_eq_false, not_false_eq_true, false_imp_iff, true_imp_iff, implies_true]
        subst eL
        have hG2 : MW x w ((0, G) : Int32 × Gr).2 no := hG
        subst eH
        have hG3 : MW x w ((0, ((0, G) : Int32 × Gr).2) : Int32 × Gr).2 no := hG2
        refine cx_cs1 4 0 0 (by decide) (c_M_join (lo := 0) (hi := 1) (l := ((0, G) : Int32 × Gr).1) (h := ((0, ((0, G) : Int32 × Gr).2) : Int32 × Gr).1) hG3 hH.1 (by have := hL.2.2.1; have := hH.2.2.1; omega) ((hz2.mono hL.2.1).mono hH.2.1) (by decide) (by decide) (fun q => absurd q (by decide)) (fun q => absurd q (by decide))) fun r w4 q => ?_
        obtain ⟨rfl, q4⟩ := q
        simp (decide := true) only [BmM_overThree, EV, EW, CT, ev_o, ev_is, ev_gd, List.length_cons, List.length_nil, Nat.reduceLT, Nat.reduceAdd, Nat.reduceEqDiff, Nat.reduceLeDiff, Int32.reduceLT, Int32.reduceLE, Int32.reduceToNatClampNeg, reduceIte, true_and, and_true, true_or, or_true, or_self, or_false, not_true_eq_false, not_false_eq_true, false_imp_iff, true_imp_iff, implies_true]
        exact ⟨rfl, q4⟩
      · have fl : flg (t % 16) 15 = 0 := by unfold flg; rw [if_pos a0]
        have fh : flg (t / 16) 15 = 2 := by unfold flg; rw [if_neg b0, if_neg b1]
        have L0 : (nI (t % 16) = 0) = True := l0.trans (eq_true a0)
        have L1 : (nI (t % 16) = 15) = False := l1.trans (eq_false (by omega))
        have H0 : (nI (t / 16) = 0) = False := g0.trans (eq_false b0)
        have H1 : (nI (t / 16) = 15) = False := g1.trans (eq_false b1)
        rw [fl] at hL eL0
        rw [fh] at hH eH0
        have eL : oL = (0, G) := eL0
        have eH : oH = tab2 3 2 oL.2 (na i0) (na i1) (t / 16) := eH0
        clear eL0 eH0
        rw [fl, fh]
        simp (decide := true) only [h1, h47, BmM_overThree, BmM_flat, an15, sr4 (d := t) (by omega), EE, L0, L1, H0, H1, nI_clamp (n := i0) (by omega), nI_clamp (n := i1) (by omega), nI_clamp (n := i2) (by omega), v0, v1, v2, EV, EW, CT, ev_o, ev_is, ev_gd, List.length_cons, List.length_nil, Nat.reduceLT, Nat.reduceAdd, Nat.reduceEqDiff, Nat.reduceLeDiff, Int32.reduceLT, Int32.reduceLE, Int32.reduceToNatClampNeg, reduceIte, true_and, and_true, true_or, or_true, or_self, or_false, not_true_eq_false, not_false_eq_true, false_imp_iff, true_imp_iff, implies_true]
        subst eL
        have hG2 : MW x w ((0, G) : Int32 × Gr).2 no := hG
        refine cx_cs1 6 0 0 (by decide) (c_M_over2 hG2 hL.1 (by have := hL.2.2.1; omega) h47 hi0 hi1 (hz0.mono hL.2.1) (hz1.mono hL.2.1) (by omega) (by omega)) fun r w3 q => ?_
        rw [← eH] at q
        obtain ⟨rfl, ⟨no3, hG3, e3⟩, hk3⟩ := q
        have h473 : w3 47 = ai 40 na := (hk3 47 (by unfold mfr; omega)).trans h47
        simp (decide := true) only [hG3.1, h473, BmM_overThree, BmM_flat, an15, sr4 (d := t) (by omega), EE, L0, L1, H0, H1, nI_clamp (n := i0) (by omega), nI_clamp (n := i1) (by omega), nI_clamp (n := i2) (by omega), v0, v1, v2, EV, EW, CT, ev_o, ev_is, ev_gd, List.length_cons, List.length_nil, Nat.reduceLT, Nat.reduceAdd, Nat.reduceEqDiff, Nat.reduceLeDiff, Int32.reduceLT, Int32.reduceLE, Int32.reduceToNatClampNeg, reduceIte, true_and, and_true, true_or, or_true, or_self, or_false, not_true_eq_false, not_false_eq_true, false_imp_iff, true_imp_iff, implies_true]
        refine cx_cs1 4 0 0 (by decide) (c_M_join (lo := 0) (hi := 2) (l := ((0, G) : Int32 × Gr).1) (h := oH.1) hG3 hH.1 (by have := hL.2.2.1; have := hH.2.2.1; omega) ((hz2.mono hL.2.1).mono hH.2.1) (by decide) (by decide) (fun q => absurd q (by decide)) (fun _ => hH.2.2.2.1 rfl)) fun r w4 q => ?_
        obtain ⟨rfl, q4⟩ := q
        simp (decide := true) only [BmM_overThree, EV, EW, CT, ev_o, ev_is, ev_gd, List.length_cons, List.length_nil, Nat.reduceLT, Nat.reduceAdd, Nat.reduceEqDiff, Nat.reduceLeDiff, Int32.reduceLT, Int32.reduceLE, Int32.reduceToNatClampNeg, reduceIte, true_and, and_true, true_or, or_true, or_self, or_false, not_true_eq_false, not_false_eq_true, false_imp_iff, true_imp_iff, implies_true]
        exact NQ.of hk3 hH.2.1 e3 ⟨rfl, q4⟩
    · by_cases a1 : t % 16 = 15
      · by_cases b0 : t / 16 = 0
        · have fl : flg (t % 16) 15 = 1 := by unfold flg; rw [if_neg a0, if_pos a1]
          have fh : flg (t / 16) 15 = 0 := by unfold flg; rw [if_pos b0]
          have L0 : (nI (t % 16) = 0) = False := l0.trans (eq_false a0)
          have L1 : (nI (t % 16) = 15) = True := l1.trans (eq_true a1)
          have H0 : (nI (t / 16) = 0) = True := g0.trans (eq_true b0)
          have H1 : (nI (t / 16) = 15) = False := g1.trans (eq_false (by omega))
          rw [fl] at hL eL0
          rw [fh] at hH eH0
          have eL : oL = (0, G) := eL0
          have eH : oH = (0, oL.2) := eH0
          clear eL0 eH0
          rw [fl, fh]
          simp (decide := true) only [h1, h47, BmM_overThree, BmM_flat, an15, sr4 (d := t) (by omega), EE, L0, L1, H0, H1, nI_clamp (n := i0) (by omega), nI_clamp (n := i1) (by omega), nI_clamp (n := i2) (by omega), v0, v1, v2, EV, EW, CT, ev_o, ev_is, ev_gd, List.length_cons, List.length_nil, Nat.reduceLT, Nat.reduceAdd, Nat.reduceEqDiff, Nat.reduceLeDiff, Int32.reduceLT, Int32.reduceLE, Int32.reduceToNatClampNeg, reduceIte, true_and, and_true, true_or, or_true, or_self, or_false, not_true_eq_false, not_false_eq_true, false_imp_iff, true_imp_iff, implies_true]
          subst eL
          have hG2 : MW x w ((0, G) : Int32 × Gr).2 no := hG
          subst eH
          have hG3 : MW x w ((0, ((0, G) : Int32 × Gr).2) : Int32 × Gr).2 no := hG2
          refine cx_cs1 4 0 0 (by decide) (c_M_join (lo := 1) (hi := 0) (l := ((0, G) : Int32 × Gr).1) (h := ((0, ((0, G) : Int32 × Gr).2) : Int32 × Gr).1) hG3 hH.1 (by have := hL.2.2.1; have := hH.2.2.1; omega) ((hz2.mono hL.2.1).mono hH.2.1) (by decide) (by decide) (fun q => absurd q (by decide)) (fun q => absurd q (by decide))) fun r w4 q => ?_
          obtain ⟨rfl, q4⟩ := q
          simp (decide := true) only [BmM_overThree, EV, EW, CT, ev_o, ev_is, ev_gd, List.length_cons, List.length_nil, Nat.reduceLT, Nat.reduceAdd, Nat.reduceEqDiff, Nat.reduceLeDiff, Int32.reduceLT, Int32.reduceLE, Int32.reduceToNatClampNeg, reduceIte, true_and, and_true, true_or, or_true, or_self, or_false, not_true_eq_false, not_false_eq_true, false_imp_iff, true_imp_iff, implies_true]
          exact ⟨rfl, q4⟩
        · have b1 : ¬ t / 16 = 15 := by omega
          have fl : flg (t % 16) 15 = 1 := by unfold flg; rw [if_neg a0, if_pos a1]
          have fh : flg (t / 16) 15 = 2 := by unfold flg; rw [if_neg b0, if_neg b1]
          have L0 : (nI (t % 16) = 0) = False := l0.trans (eq_false a0)
          have L1 : (nI (t % 16) = 15) = True := l1.trans (eq_true a1)
          have H0 : (nI (t / 16) = 0) = False := g0.trans (eq_false b0)
          have H1 : (nI (t / 16) = 15) = False := g1.trans (eq_false b1)
          rw [fl] at hL eL0
          rw [fh] at hH eH0
          have eL : oL = (0, G) := eL0
          have eH : oH = tab2 3 2 oL.2 (na i0) (na i1) (t / 16) := eH0
          clear eL0 eH0
          rw [fl, fh]
          simp (decide := true) only [h1, h47, BmM_overThree, BmM_flat, an15, sr4 (d := t) (by omega), EE, L0, L1, H0, H1, nI_clamp (n := i0) (by omega), nI_clamp (n := i1) (by omega), nI_clamp (n := i2) (by omega), v0, v1, v2, EV, EW, CT, ev_o, ev_is, ev_gd, List.length_cons, List.length_nil, Nat.reduceLT, Nat.reduceAdd, Nat.reduceEqDiff, Nat.reduceLeDiff, Int32.reduceLT, Int32.reduceLE, Int32.reduceToNatClampNeg, reduceIte, true_and, and_true, true_or, or_true, or_self, or_false, not_true_eq_false, not_false_eq_true, false_imp_iff, true_imp_iff, implies_true]
          subst eL
          have hG2 : MW x w ((0, G) : Int32 × Gr).2 no := hG
          refine cx_cs1 6 0 0 (by decide) (c_M_over2 hG2 hL.1 (by have := hL.2.2.1; omega) h47 hi0 hi1 (hz0.mono hL.2.1) (hz1.mono hL.2.1) (by omega) (by omega)) fun r w3 q => ?_
          rw [← eH] at q
          obtain ⟨rfl, ⟨no3, hG3, e3⟩, hk3⟩ := q
          have h473 : w3 47 = ai 40 na := (hk3 47 (by unfold mfr; omega)).trans h47
          simp (decide := true) only [hG3.1, h473, BmM_overThree, BmM_flat, an15, sr4 (d := t) (by omega), EE, L0, L1, H0, H1, nI_clamp (n := i0) (by omega), nI_clamp (n := i1) (by omega), nI_clamp (n := i2) (by omega), v0, v1, v2, EV, EW, CT, ev_o, ev_is, ev_gd, List.length_cons, List.length_nil, Nat.reduceLT, Nat.reduceAdd, Nat.reduceEqDiff, Nat.reduceLeDiff, Int32.reduceLT, Int32.reduceLE, Int32.reduceToNatClampNeg, reduceIte, true_and, and_true, true_or, or_true, or_self, or_false, not_true_eq_false, not_false_eq_true, false_imp_iff, true_imp_iff, implies_true]
          refine cx_cs1 4 0 0 (by decide) (c_M_join (lo := 1) (hi := 2) (l := ((0, G) : Int32 × Gr).1) (h := oH.1) hG3 hH.1 (by have := hL.2.2.1; have := hH.2.2.1; omega) ((hz2.mono hL.2.1).mono hH.2.1) (by decide) (by decide) (fun q => absurd q (by decide)) (fun _ => hH.2.2.2.1 rfl)) fun r w4 q => ?_
          obtain ⟨rfl, q4⟩ := q
          simp (decide := true) only [BmM_overThree, EV, EW, CT, ev_o, ev_is, ev_gd, List.length_cons, List.length_nil, Nat.reduceLT, Nat.reduceAdd, Nat.reduceEqDiff, Nat.reduceLeDiff, Int32.reduceLT, Int32.reduceLE, Int32.reduceToNatClampNeg, reduceIte, true_and, and_true, true_or, or_true, or_self, or_false, not_true_eq_false, not_false_eq_true, false_imp_iff, true_imp_iff, implies_true]
          exact NQ.of hk3 hH.2.1 e3 ⟨rfl, q4⟩
      · by_cases b0 : t / 16 = 0
        · have fl : flg (t % 16) 15 = 2 := by unfold flg; rw [if_neg a0, if_neg a1]
          have fh : flg (t / 16) 15 = 0 := by unfold flg; rw [if_pos b0]
          have L0 : (nI (t % 16) = 0) = False := l0.trans (eq_false a0)
          have L1 : (nI (t % 16) = 15) = False := l1.trans (eq_false a1)
          have H0 : (nI (t / 16) = 0) = True := g0.trans (eq_true b0)
          have H1 : (nI (t / 16) = 15) = False := g1.trans (eq_false (by omega))
          rw [fl] at hL eL0
          rw [fh] at hH eH0
          have eL : oL = tab2 3 2 G (na i0) (na i1) (t % 16) := eL0
          have eH : oH = (0, oL.2) := eH0
          clear eL0 eH0
          rw [fl, fh]
          simp (decide := true) only [h1, h47, BmM_overThree, BmM_flat, an15, sr4 (d := t) (by omega), EE, L0, L1, H0, H1, nI_clamp (n := i0) (by omega), nI_clamp (n := i1) (by omega), nI_clamp (n := i2) (by omega), v0, v1, v2, EV, EW, CT, ev_o, ev_is, ev_gd, List.length_cons, List.length_nil, Nat.reduceLT, Nat.reduceAdd, Nat.reduceEqDiff, Nat.reduceLeDiff, Int32.reduceLT, Int32.reduceLE, Int32.reduceToNatClampNeg, reduceIte, true_and, and_true, true_or, or_true, or_self, or_false, not_true_eq_false, not_false_eq_true, false_imp_iff, true_imp_iff, implies_true]
          refine cx_cs1 6 0 0 (by decide) (c_M_over2 hG hW (by omega) h47 hi0 hi1 hz0 hz1 (by omega) (by omega)) fun r w2 q => ?_
          rw [← eL] at q
          obtain ⟨rfl, ⟨no2, hG2, e2⟩, hk2⟩ := q
          have h472 : w2 47 = ai 40 na := (hk2 47 (by unfold mfr; omega)).trans h47
          simp (decide := true) only [hG2.1, h472, BmM_overThree, BmM_flat, an15, sr4 (d := t) (by omega), EE, L0, L1, H0, H1, nI_clamp (n := i0) (by omega), nI_clamp (n := i1) (by omega), nI_clamp (n := i2) (by omega), v0, v1, v2, EV, EW, CT, ev_o, ev_is, ev_gd, List.length_cons, List.length_nil, Nat.reduceLT, Nat.reduceAdd, Nat.reduceEqDiff, Nat.reduceLeDiff, Int32.reduceLT, Int32.reduceLE, Int32.reduceToNatClampNeg, reduceIte, true_and, and_true, true_or, or_true, or_self, or_false, not_true_eq_false, not_false_eq_true, false_imp_iff, true_imp_iff, implies_true]
          subst eH
          have hG3 : MW x w2 ((0, oL.2) : Int32 × Gr).2 no2 := hG2
          refine cx_cs1 4 0 0 (by decide) (c_M_join (lo := 2) (hi := 0) (l := oL.1) (h := ((0, oL.2) : Int32 × Gr).1) hG3 hH.1 (by have := hL.2.2.1; have := hH.2.2.1; omega) ((hz2.mono hL.2.1).mono hH.2.1) (by decide) (by decide) (fun _ => (hL.2.2.2.1 rfl).mono hH.2.1) (fun q => absurd q (by decide))) fun r w4 q => ?_
          obtain ⟨rfl, q4⟩ := q
          simp (decide := true) only [BmM_overThree, EV, EW, CT, ev_o, ev_is, ev_gd, List.length_cons, List.length_nil, Nat.reduceLT, Nat.reduceAdd, Nat.reduceEqDiff, Nat.reduceLeDiff, Int32.reduceLT, Int32.reduceLE, Int32.reduceToNatClampNeg, reduceIte, true_and, and_true, true_or, or_true, or_self, or_false, not_true_eq_false, not_false_eq_true, false_imp_iff, true_imp_iff, implies_true]
          exact NQ.of hk2 hL.2.1 e2 ⟨rfl, q4⟩
        · by_cases b1 : t / 16 = 15
          · have fl : flg (t % 16) 15 = 2 := by unfold flg; rw [if_neg a0, if_neg a1]
            have fh : flg (t / 16) 15 = 1 := by unfold flg; rw [if_neg b0, if_pos b1]
            have L0 : (nI (t % 16) = 0) = False := l0.trans (eq_false a0)
            have L1 : (nI (t % 16) = 15) = False := l1.trans (eq_false a1)
            have H0 : (nI (t / 16) = 0) = False := g0.trans (eq_false b0)
            have H1 : (nI (t / 16) = 15) = True := g1.trans (eq_true b1)
            rw [fl] at hL eL0
            rw [fh] at hH eH0
            have eL : oL = tab2 3 2 G (na i0) (na i1) (t % 16) := eL0
            have eH : oH = (0, oL.2) := eH0
            clear eL0 eH0
            rw [fl, fh]
            simp (decide := true) only [h1, h47, BmM_overThree, BmM_flat, an15, sr4 (d := t) (by omega), EE, L0, L1, H0, H1, nI_clamp (n := i0) (by omega), nI_clamp (n := i1) (by omega), nI_clamp (n := i2) (by omega), v0, v1, v2, EV, EW, CT, ev_o, ev_is, ev_gd, List.length_cons, List.length_nil, Nat.reduceLT, Nat.reduceAdd, Nat.reduceEqDiff, Nat.reduceLeDiff, Int32.reduceLT, Int32.reduceLE, Int32.reduceToNatClampNeg, reduceIte, true_and, and_true, true_or, or_true, or_self, or_false, not_true_eq_false, not_false_eq_true, false_imp_iff, true_imp_iff, implies_true]
            refine cx_cs1 6 0 0 (by decide) (c_M_over2 hG hW (by omega) h47 hi0 hi1 hz0 hz1 (by omega) (by omega)) fun r w2 q => ?_
            rw [← eL] at q
            obtain ⟨rfl, ⟨no2, hG2, e2⟩, hk2⟩ := q
            have h472 : w2 47 = ai 40 na := (hk2 47 (by unfold mfr; omega)).trans h47
            simp (decide := true) only [hG2.1, h472, BmM_overThree, BmM_flat, an15, sr4 (d := t) (by omega), EE, L0, L1, H0, H1, nI_clamp (n := i0) (by omega), nI_clamp (n := i1) (by omega), nI_clamp (n := i2) (by omega), v0, v1, v2, EV, EW, CT, ev_o, ev_is, ev_gd, List.length_cons, List.length_nil, Nat.reduceLT, Nat.reduceAdd, Nat.reduceEqDiff, Nat.reduceLeDiff, Int32.reduceLT, Int32.reduceLE, Int32.reduceToNatClampNeg, reduceIte, true_and, and_true, true_or, or_true, or_self, or_false, not_true_eq_false, not_false_eq_true, false_imp_iff, true_imp_iff, implies_true]
            subst eH
            have hG3 : MW x w2 ((0, oL.2) : Int32 × Gr).2 no2 := hG2
            refine cx_cs1 4 0 0 (by decide) (c_M_join (lo := 2) (hi := 1) (l := oL.1) (h := ((0, oL.2) : Int32 × Gr).1) hG3 hH.1 (by have := hL.2.2.1; have := hH.2.2.1; omega) ((hz2.mono hL.2.1).mono hH.2.1) (by decide) (by decide) (fun _ => (hL.2.2.2.1 rfl).mono hH.2.1) (fun q => absurd q (by decide))) fun r w4 q => ?_
            obtain ⟨rfl, q4⟩ := q
            simp (decide := true) only [BmM_overThree, EV, EW, CT, ev_o, ev_is, ev_gd, List.length_cons, List.length_nil, Nat.reduceLT, Nat.reduceAdd, Nat.reduceEqDiff, Nat.reduceLeDiff, Int32.reduceLT, Int32.reduceLE, Int32.reduceToNatClampNeg, reduceIte, true_and, and_true, true_or, or_true, or_self, or_false, not_true_eq_false, not_false_eq_true, false_imp_iff, true_imp_iff, implies_true]
            exact NQ.of hk2 hL.2.1 e2 ⟨rfl, q4⟩
          · have fl : flg (t % 16) 15 = 2 := by unfold flg; rw [if_neg a0, if_neg a1]
            have fh : flg (t / 16) 15 = 2 := by unfold flg; rw [if_neg b0, if_neg b1]
            have L0 : (nI (t % 16) = 0) = False := l0.trans (eq_false a0)
            have L1 : (nI (t % 16) = 15) = False := l1.trans (eq_false a1)
            have H0 : (nI (t / 16) = 0) = False := g0.trans (eq_false b0)
            have H1 : (nI (t / 16) = 15) = False := g1.trans (eq_false b1)
            rw [fl] at hL eL0
            rw [fh] at hH eH0
            have eL : oL = tab2 3 2 G (na i0) (na i1) (t % 16) := eL0
            have eH : oH = tab2 3 2 oL.2 (na i0) (na i1) (t / 16) := eH0
            clear eL0 eH0
            rw [fl, fh]
            simp (decide := true) only [h1, h47, BmM_overThree, BmM_flat, an15, sr4 (d := t) (by omega), EE, L0, L1, H0, H1, nI_clamp (n := i0) (by omega), nI_clamp (n := i1) (by omega), nI_clamp (n := i2) (by omega), v0, v1, v2, EV, EW, CT, ev_o, ev_is, ev_gd, List.length_cons, List.length_nil, Nat.reduceLT, Nat.reduceAdd, Nat.reduceEqDiff, Nat.reduceLeDiff, Int32.reduceLT, Int32.reduceLE, Int32.reduceToNatClampNeg, reduceIte, true_and, and_true, true_or, or_true, or_self, or_false, not_true_eq_false, not_false_eq_true, false_imp_iff, true_imp_iff, implies_true]
            refine cx_cs1 6 0 0 (by decide) (c_M_over2 hG hW (by omega) h47 hi0 hi1 hz0 hz1 (by omega) (by omega)) fun r w2 q => ?_
            rw [← eL] at q
            obtain ⟨rfl, ⟨no2, hG2, e2⟩, hk2⟩ := q
            have h472 : w2 47 = ai 40 na := (hk2 47 (by unfold mfr; omega)).trans h47
            simp (decide := true) only [hG2.1, h472, BmM_overThree, BmM_flat, an15, sr4 (d := t) (by omega), EE, L0, L1, H0, H1, nI_clamp (n := i0) (by omega), nI_clamp (n := i1) (by omega), nI_clamp (n := i2) (by omega), v0, v1, v2, EV, EW, CT, ev_o, ev_is, ev_gd, List.length_cons, List.length_nil, Nat.reduceLT, Nat.reduceAdd, Nat.reduceEqDiff, Nat.reduceLeDiff, Int32.reduceLT, Int32.reduceLE, Int32.reduceToNatClampNeg, reduceIte, true_and, and_true, true_or, or_true, or_self, or_false, not_true_eq_false, not_false_eq_true, false_imp_iff, true_imp_iff, implies_true]
            refine cx_cs1 6 0 0 (by decide) (c_M_over2 hG2 hL.1 (by have := hL.2.2.1; omega) h472 hi0 hi1 (hz0.mono hL.2.1) (hz1.mono hL.2.1) (by omega) (by omega)) fun r w3 q => ?_
            rw [← eH] at q
            obtain ⟨rfl, ⟨no3, hG3, e3⟩, hk3⟩ := q
            have h473 : w3 47 = ai 40 na := (hk3 47 (by unfold mfr; omega)).trans h472
            simp (decide := true) only [hG3.1, h473, BmM_overThree, BmM_flat, an15, sr4 (d := t) (by omega), EE, L0, L1, H0, H1, nI_clamp (n := i0) (by omega), nI_clamp (n := i1) (by omega), nI_clamp (n := i2) (by omega), v0, v1, v2, EV, EW, CT, ev_o, ev_is, ev_gd, List.length_cons, List.length_nil, Nat.reduceLT, Nat.reduceAdd, Nat.reduceEqDiff, Nat.reduceLeDiff, Int32.reduceLT, Int32.reduceLE, Int32.reduceToNatClampNeg, reduceIte, true_and, and_true, true_or, or_true, or_self, or_false, not_true_eq_false, not_false_eq_true, false_imp_iff, true_imp_iff, implies_true]
            refine cx_cs1 4 0 0 (by decide) (c_M_join (lo := 2) (hi := 2) (l := oL.1) (h := oH.1) hG3 hH.1 (by have := hL.2.2.1; have := hH.2.2.1; omega) ((hz2.mono hL.2.1).mono hH.2.1) (by decide) (by decide) (fun _ => (hL.2.2.2.1 rfl).mono hH.2.1) (fun _ => hH.2.2.2.1 rfl)) fun r w4 q => ?_
            obtain ⟨rfl, q4⟩ := q
            simp (decide := true) only [BmM_overThree, EV, EW, CT, ev_o, ev_is, ev_gd, List.length_cons, List.length_nil, Nat.reduceLT, Nat.reduceAdd, Nat.reduceEqDiff, Nat.reduceLeDiff, Int32.reduceLT, Int32.reduceLE, Int32.reduceToNatClampNeg, reduceIte, true_and, and_true, true_or, or_true, or_self, or_false, not_true_eq_false, not_false_eq_true, false_imp_iff, true_imp_iff, implies_true]
            exact NQ.of hk2 hL.2.1 e2 (NQ.of hk3 hH.2.1 e3 ⟨rfl, q4⟩)
