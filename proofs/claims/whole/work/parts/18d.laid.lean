/-! Laying: the contract; what a laid cell costs: the given side. Printed by gen_18d.py. -/
theorem pats_pt {q : Nat} (hq : q ∈ pats) : pt 8 q 1 = true ∧ cdr 1 8 q = pinsP q ∧ cdr 3 8 q = nandsP q := by
  have h : pats.all (fun q => pt 8 q 1 && decide (cdr 1 8 q = pinsP q ∧ cdr 3 8 q = nandsP q)) = true := by decide +kernel
  have := List.all_eq_true.mp h q hq
  rw [Bool.and_eq_true] at this
  exact ⟨this.1, of_decide_eq_true this.2⟩
set_option maxHeartbeats 4000000 in
theorem c_Co_lay {w : cx_W} {G : Gr} {kd px py : Nat → Nat} {need : Nat → Bool} {us : Nat → Nat} {fn gu pa ndc op lp : Nat → Int32} {c sw q n : Nat} {dd : Nat} (hW : CoW w G kd px py need us fn gu pa ndc) (hc : c < 8) (hpa : pa c = nI q) (hnd : ndc c = nI (nandsP q)) (hq : q ∈ pats) (hsw : sw < 8) (hn : n < G.1) (h26 : w 26 = ai 4 lp) (h27 : w 27 = ai 8 op) :
    cx_MC mCo_lay (dd + 2) 0 0 [.ref 20, .int (nI c), .int (nI n), .int (nI sw)] w 87 (fun r w2 => (∃ op2 lp2, w2 27 = ai 8 op2 ∧ w2 26 = ai 4 lp2 ∧ ((∃ pins, layN kd px py (rtU kd need us) sw 8 q true [n] [] (nandsP q) = some pins ∧ Stk lp2 pins ∧ r = some (.int 1)) ∨ (layN kd px py (rtU kd need us) sw 8 q true [n] [] (nandsP q) = none ∧ r = some (.int 0)))) ∧ ∀ k, ¬ k = 26 ∧ ¬ k = 27 → w2 k = w k) := by
  have hW' := hW
  obtain ⟨⟨g1, g2, g3, g4⟩, hn48, hK, ⟨x20, h20⟩, ⟨x13, h13⟩, h14, h18, h21, hfn, h22, hgu, hus⟩ := hW
  have vc : vp_in (nI c) 8 := nI_in hc (by decide)
  have ⟨p1, p2, p3⟩ := pats_pt hq
  have ⟨_, p4, p5, _, _, _⟩ := pat_num hq
  refine cx_met 60 mCo_lay_ok rfl ?_
  show cx_vc 60 none mCo_lay (dd + 2) 0 0 _ _ 0 [some (.ref 20), some (.int (nI c)), some (.int (nI n)), some (.int (nI sw)), none, none, none, none, none, none, none] [] w (87, 0, 0)
  have u0 : vp_in 0 8 := by unfold vp_in; decide
  simp (decide := true) only [BmCo_lay, BSC, h20, h13, h18, h27, vc, u0, hnd, nI_clamp (n := c) (by omega), Int32.reduceToNatClampNeg, EV, EW, CT, ev_o, ev_is, ev_gd, List.length_cons, List.length_nil, Nat.reduceLT, Nat.reduceAdd, Nat.reduceEqDiff, Nat.reduceLeDiff, Int32.reduceLT, Int32.reduceLE, reduceIte, true_and, and_true, true_or, or_true, not_true_eq_false, not_false_eq_true, false_imp_iff, true_imp_iff, implies_true]
  refine lay_loop (w := w) (q := q) hW' hc hpa (pats_lt hq) hsw 8 0 q [n] [] (nandsP q) _ (upd op 0 (nI n)) lp _ _ _ (by omega) (by simp) p1 (fun x hx => by rw [List.mem_singleton.mp hx]; exact hn) ⟨pk_us, trivial⟩ trivial (by simp only [List.length_nil]; omega) (by omega) p5 (by simp) (by simp only [cx_up, Nat.reduceEqDiff, reduceIte]) (by simp only [cx_up, Nat.reduceEqDiff, reduceIte]; exact h26) (fun k z => by simp (disch := omega) only [cx_up, if_neg])
    (fun pins hp w2 op2 lp2 a b c d => ⟨⟨op2, lp2, a, b, .inl ⟨pins, hp, d, rfl⟩⟩, c⟩) (fun hp w2 op2 lp2 a b c => ⟨⟨op2, lp2, a, b, .inr ⟨hp, rfl⟩⟩, c⟩)
theorem Stk.at {row : Nat → Int32} : ∀ {l : List Nat} {i : Nat}, Stk row l → i < l.length → ∃ x, x ∈ l ∧ row i = nI x ∧ l.drop (l.length - (i + 1)) = x :: l.drop (l.length - i)
  | n :: l, i, h, hi => by
    rw [List.length_cons] at hi
    by_cases e : i = l.length
    · subst e
      refine ⟨n, List.mem_cons_self .., h.1, ?_⟩
      rw [List.length_cons, Nat.sub_self, show l.length + 1 - l.length = 1 by omega]; rfl
    · have ⟨x, h1, h2, h3⟩ := Stk.at h.2 (show i < l.length by omega)
      refine ⟨x, List.mem_cons_of_mem _ h1, h2, ?_⟩
      rw [List.length_cons, show l.length + 1 - (i + 1) = (l.length - (i + 1)) + 1 by omega, show l.length + 1 - i = (l.length - i) + 1 by omega, List.drop_succ_cons, List.drop_succ_cons]
      exact h3
set_option maxHeartbeats 8000000 in
theorem lc_loop {w : cx_W} {G : Gr} {kd px py : Nat → Nat} {need : Nat → Bool} {us cost : Nat → Nat} {fn gu pa ndc ar pn cs lp : Nat → Int32} {c A : Nat} {l : List Nat} {dd : Nat} (hW : CoW w G kd px py need us fn gu pa ndc) (h15 : w 15 = ai 8 ar) (h17 : w 17 = ai 8 pn) (h23 : w 23 = ai 48 cs) (h26 : w 26 = ai 4 lp) (hc : c < 8) (hpn : pn c = nI l.length) (hl4 : l.length ≤ 4) (hlp : Stk lp l) (hlG : ∀ x, x ∈ l → x < G.1) (hcs : ∀ x, x ∈ l → nr kd (rtU kd need us) x → cs x = nI (cost x)) :
    ∀ (m i : Nat) (l4 : Option Value), i + m = l.length →
    cx_OK none mCo_laidCost (dd + 2) 0 0 (fun r w2 _ => r = some (.int (nI (A + sumL (pc kd (rtU kd need us) cost) l))) ∧ w2 = w) 11 [some (.ref 20), some (.int (nI c)), some (.int (nI (A + sumL (pc kd (rtU kd need us) cost) (l.drop (l.length - i))))), some (.int (nI i)), l4] [] w (87, 0, 0) := by
  obtain ⟨⟨g1, g2, g3, g4⟩, hn48, hK, ⟨x20, h20⟩, ⟨x13, h13⟩, h14, h18, h21, hfn, h22, hgu, hus⟩ := hW
  have vc : vp_in (nI c) 8 := nI_in hc (by decide)
  intro m
  induction m with
  | zero =>
    intro i l4 hi
    have e : i = l.length := by omega
    subst e
    have E := leT (a := l.length) (b := l.length) (by omega) (by omega)
    refine cx_run 100 mCo_laidCost_mo ?_
    simp (decide := true) only [BmCo_laidCost, BSC, h20, h13, h17, vc, hpn, nI_clamp (n := c) (by omega), E, Nat.sub_self, List.drop_zero, EV, EW, CT, ev_o, ev_is, ev_gd, List.length_cons, List.length_nil, Nat.reduceLT, Nat.reduceAdd, Nat.reduceEqDiff, Nat.reduceLeDiff, Int32.reduceLT, Int32.reduceLE, reduceIte, true_and, and_true, true_or, or_true, not_true_eq_false, not_false_eq_true, false_imp_iff, true_imp_iff, implies_true]
  | succ m ih =>
    intro i l4 hi
    have E := leF (a := l.length) (b := i) (by omega) (by omega)
    have v1 : vp_in (nI i) 4 := nI_in (by omega) (by decide)
    have ⟨n, n1, n2, n3⟩ := hlp.at (show i < l.length by omega)
    have hnG := hlG n n1
    have vN : vp_in (nI n) 48 := nI_in (by omega) (by decide)
    have ⟨e1, e2, e3, e4⟩ := hK n hnG
    have fnn := hfn n (by omega)
    have gun := hgu n (by omega)
    have usn := hus n
    have nx := ih (i + 1) (some (.int (nI n))) (by omega)
    rw [n3, sumL] at nx
    refine cx_run 100 mCo_laidCost_mo ?_
    rcases (show kd n = 0 ∨ kd n = 1 ∨ kd n = 2 ∨ kd n = 3 by omega) with kk | kk | kk | kk
    · have KD : G.2.1 n = 0 := by rw [e1, kk]; rfl
      rw [show pc kd (rtU kd need us) cost n = 0 from if_neg (fun z => by have := z.1; omega), Nat.zero_add] at nx
      simp (decide := true) only [KD, BmCo_laidCost, BSC, h20, h13, h17, h26, g1, g2, h21, h22, E, vc, v1, vN, hpn, n2, nI_clamp (n := c) (by omega), nI_clamp (n := i) (by omega), nI_clamp (n := n) (by omega), nI_1, EV, EW, CT, ev_o, ev_is, ev_gd, List.length_cons, List.length_nil, Nat.reduceLT, Nat.reduceAdd, Nat.reduceEqDiff, Nat.reduceLeDiff, Int32.reduceLT, Int32.reduceLE, reduceIte, true_and, and_true, true_or, or_true, not_true_eq_false, not_false_eq_true, false_imp_iff, true_imp_iff, implies_true]
      exact nx
    · have KD : G.2.1 n = 1 := by rw [e1, kk]; rfl
      rw [show pc kd (rtU kd need us) cost n = 0 from if_neg (fun z => by have := z.1; omega), Nat.zero_add] at nx
      simp (decide := true) only [KD, BmCo_laidCost, BSC, h20, h13, h17, h26, g1, g2, h21, h22, E, vc, v1, vN, hpn, n2, nI_clamp (n := c) (by omega), nI_clamp (n := i) (by omega), nI_clamp (n := n) (by omega), nI_1, EV, EW, CT, ev_o, ev_is, ev_gd, List.length_cons, List.length_nil, Nat.reduceLT, Nat.reduceAdd, Nat.reduceEqDiff, Nat.reduceLeDiff, Int32.reduceLT, Int32.reduceLE, reduceIte, true_and, and_true, true_or, or_true, not_true_eq_false, not_false_eq_true, false_imp_iff, true_imp_iff, implies_true]
      exact nx
    · have KD : G.2.1 n = 2 := by rw [e1, kk]; rfl
      have hlog : kd n = 2 ∨ kd n = 3 := by omega
      cases hr : rtU kd need us n
      · have ⟨r1, r2⟩ := rtU_f hlog hr
        have F1 : fn n = 0 := fnn.2 (fun (z : need n = true) => by rw [r1] at z; cases z)
        have F2 : (nI (us n) ≤ 1) = True := eq_true (nI_le (b := 1) (by omega) (by decide))
        have cn := hcs n n1 ⟨hlog, hr⟩
        rw [show pc kd (rtU kd need us) cost n = cost n from if_pos ⟨hlog, hr⟩, Nat.add_comm (cost n), ← Nat.add_assoc] at nx
        simp (decide := true) only [KD, F1, F2, gun, h23, cn, nI_add, BmCo_laidCost, BSC, h20, h13, h17, h26, g1, g2, h21, h22, E, vc, v1, vN, hpn, n2, nI_clamp (n := c) (by omega), nI_clamp (n := i) (by omega), nI_clamp (n := n) (by omega), nI_1, EV, EW, CT, ev_o, ev_is, ev_gd, List.length_cons, List.length_nil, Nat.reduceLT, Nat.reduceAdd, Nat.reduceEqDiff, Nat.reduceLeDiff, Int32.reduceLT, Int32.reduceLE, reduceIte, true_and, and_true, true_or, or_true, not_true_eq_false, not_false_eq_true, false_imp_iff, true_imp_iff, implies_true]
        exact nx
      · rw [show pc kd (rtU kd need us) cost n = 0 from if_neg (fun z => by have y := z.2; rw [hr] at y; cases y), Nat.zero_add] at nx
        rcases (rtU_t hr).2 with r1 | ⟨r1, r2⟩
        · have F1 : fn n = 1 := fnn.1 r1
          simp (decide := true) only [KD, F1, BmCo_laidCost, BSC, h20, h13, h17, h26, g1, g2, h21, h22, E, vc, v1, vN, hpn, n2, nI_clamp (n := c) (by omega), nI_clamp (n := i) (by omega), nI_clamp (n := n) (by omega), nI_1, EV, EW, CT, ev_o, ev_is, ev_gd, List.length_cons, List.length_nil, Nat.reduceLT, Nat.reduceAdd, Nat.reduceEqDiff, Nat.reduceLeDiff, Int32.reduceLT, Int32.reduceLE, reduceIte, true_and, and_true, true_or, or_true, not_true_eq_false, not_false_eq_true, false_imp_iff, true_imp_iff, implies_true]
          exact nx
        · have F1 : fn n = 0 := fnn.2 (fun (z : need n = true) => by rw [r1] at z; cases z)
          have F2 : (nI (us n) ≤ 1) = False := eq_false (Int32.not_le.mpr (nI_lt (a := 1) r2 (by omega)))
          simp (decide := true) only [KD, F1, F2, gun, BmCo_laidCost, BSC, h20, h13, h17, h26, g1, g2, h21, h22, E, vc, v1, vN, hpn, n2, nI_clamp (n := c) (by omega), nI_clamp (n := i) (by omega), nI_clamp (n := n) (by omega), nI_1, EV, EW, CT, ev_o, ev_is, ev_gd, List.length_cons, List.length_nil, Nat.reduceLT, Nat.reduceAdd, Nat.reduceEqDiff, Nat.reduceLeDiff, Int32.reduceLT, Int32.reduceLE, reduceIte, true_and, and_true, true_or, or_true, not_true_eq_false, not_false_eq_true, false_imp_iff, true_imp_iff, implies_true]
          exact nx
    · have KD : G.2.1 n = 3 := by rw [e1, kk]; rfl
      have hlog : kd n = 2 ∨ kd n = 3 := by omega
      cases hr : rtU kd need us n
      · have ⟨r1, r2⟩ := rtU_f hlog hr
        have F1 : fn n = 0 := fnn.2 (fun (z : need n = true) => by rw [r1] at z; cases z)
        have F2 : (nI (us n) ≤ 1) = True := eq_true (nI_le (b := 1) (by omega) (by decide))
        have cn := hcs n n1 ⟨hlog, hr⟩
        rw [show pc kd (rtU kd need us) cost n = cost n from if_pos ⟨hlog, hr⟩, Nat.add_comm (cost n), ← Nat.add_assoc] at nx
        simp (decide := true) only [KD, F1, F2, gun, h23, cn, nI_add, BmCo_laidCost, BSC, h20, h13, h17, h26, g1, g2, h21, h22, E, vc, v1, vN, hpn, n2, nI_clamp (n := c) (by omega), nI_clamp (n := i) (by omega), nI_clamp (n := n) (by omega), nI_1, EV, EW, CT, ev_o, ev_is, ev_gd, List.length_cons, List.length_nil, Nat.reduceLT, Nat.reduceAdd, Nat.reduceEqDiff, Nat.reduceLeDiff, Int32.reduceLT, Int32.reduceLE, reduceIte, true_and, and_true, true_or, or_true, not_true_eq_false, not_false_eq_true, false_imp_iff, true_imp_iff, implies_true]
        exact nx
      · rw [show pc kd (rtU kd need us) cost n = 0 from if_neg (fun z => by have y := z.2; rw [hr] at y; cases y), Nat.zero_add] at nx
        rcases (rtU_t hr).2 with r1 | ⟨r1, r2⟩
        · have F1 : fn n = 1 := fnn.1 r1
          simp (decide := true) only [KD, F1, BmCo_laidCost, BSC, h20, h13, h17, h26, g1, g2, h21, h22, E, vc, v1, vN, hpn, n2, nI_clamp (n := c) (by omega), nI_clamp (n := i) (by omega), nI_clamp (n := n) (by omega), nI_1, EV, EW, CT, ev_o, ev_is, ev_gd, List.length_cons, List.length_nil, Nat.reduceLT, Nat.reduceAdd, Nat.reduceEqDiff, Nat.reduceLeDiff, Int32.reduceLT, Int32.reduceLE, reduceIte, true_and, and_true, true_or, or_true, not_true_eq_false, not_false_eq_true, false_imp_iff, true_imp_iff, implies_true]
          exact nx
        · have F1 : fn n = 0 := fnn.2 (fun (z : need n = true) => by rw [r1] at z; cases z)
          have F2 : (nI (us n) ≤ 1) = False := eq_false (Int32.not_le.mpr (nI_lt (a := 1) r2 (by omega)))
          simp (decide := true) only [KD, F1, F2, gun, BmCo_laidCost, BSC, h20, h13, h17, h26, g1, g2, h21, h22, E, vc, v1, vN, hpn, n2, nI_clamp (n := c) (by omega), nI_clamp (n := i) (by omega), nI_clamp (n := n) (by omega), nI_1, EV, EW, CT, ev_o, ev_is, ev_gd, List.length_cons, List.length_nil, Nat.reduceLT, Nat.reduceAdd, Nat.reduceEqDiff, Nat.reduceLeDiff, Int32.reduceLT, Int32.reduceLE, reduceIte, true_and, and_true, true_or, or_true, not_true_eq_false, not_false_eq_true, false_imp_iff, true_imp_iff, implies_true]
          exact nx
set_option maxHeartbeats 4000000 in
theorem c_Co_laidCost {w : cx_W} {G : Gr} {kd px py : Nat → Nat} {need : Nat → Bool} {us cost : Nat → Nat} {fn gu pa ndc ar pn cs lp : Nat → Int32} {c A : Nat} {l : List Nat} {dd : Nat} (hW : CoW w G kd px py need us fn gu pa ndc) (h15 : w 15 = ai 8 ar) (h17 : w 17 = ai 8 pn) (h23 : w 23 = ai 48 cs) (h26 : w 26 = ai 4 lp) (hc : c < 8) (har : ar c = nI A) (hpn : pn c = nI l.length) (hl4 : l.length ≤ 4) (hlp : Stk lp l) (hlG : ∀ x, x ∈ l → x < G.1) (hcs : ∀ x, x ∈ l → nr kd (rtU kd need us) x → cs x = nI (cost x)) :
    cx_MC mCo_laidCost (dd + 2) 0 0 [.ref 20, .int (nI c)] w 87 (fun r w2 => r = some (.int (nI (A + sumL (pc kd (rtU kd need us) cost) l))) ∧ w2 = w) := by
  have hW' := hW
  obtain ⟨⟨g1, g2, g3, g4⟩, hn48, hK, ⟨x20, h20⟩, ⟨x13, h13⟩, h14, h18, h21, hfn, h22, hgu, hus⟩ := hW
  have vc : vp_in (nI c) 8 := nI_in hc (by decide)
  refine cx_met 60 mCo_laidCost_ok rfl ?_
  show cx_vc 60 none mCo_laidCost (dd + 2) 0 0 _ _ 0 [some (.ref 20), some (.int (nI c)), none, none, none] [] w (87, 0, 0)
  simp (decide := true) only [BmCo_laidCost, BSC, h20, h13, h15, vc, har, nI_clamp (n := c) (by omega), EV, EW, CT, ev_o, ev_is, ev_gd, List.length_cons, List.length_nil, Nat.reduceLT, Nat.reduceAdd, Nat.reduceEqDiff, Nat.reduceLeDiff, Int32.reduceLT, Int32.reduceLE, reduceIte, true_and, and_true, true_or, or_true, not_true_eq_false, not_false_eq_true, false_imp_iff, true_imp_iff, implies_true]
  have := lc_loop (A := A) (dd := dd) hW' h15 h17 h23 h26 hc hpn hl4 hlp hlG hcs l.length 0 none (by omega)
  rw [Nat.sub_zero, List.drop_length, sumL, Nat.add_zero] at this
  exact this
