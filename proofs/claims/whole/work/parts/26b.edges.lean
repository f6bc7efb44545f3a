/-! Measuring: the reference's side, edges and stages. Own work. -/
theorem pl4 {w : cx_W} {n : Nat} {gt : Nat → Prop} {q pl d : Nat → Nat} {s lt st : Nat → Nat → Nat} {oc : Nat} {os ol ob : Nat → Nat} {pa dl ch gr so la_ : Nat → Int32} {sr : Nat → Int64} (h : RmW w n gt q pl d s lt st oc os ol ob pa dl ch gr so la_ sr) : ∀ g, gt g → pl g ≤ 4 := fun g hg => by
  obtain ⟨_, _, hc, _⟩ := h
  obtain ⟨_, c2, c3, _⟩ := hc g hg
  have := pat_num c2
  omega
set_option maxHeartbeats 16000000 in
theorem mme_edges {w : cx_W} {n : Nat} {gt : Nat → Prop} {q pl d : Nat → Nat} {s lt st : Nat → Nat → Nat} {oc : Nat} {os ol ob : Nat → Nat} {pa dl ch gr so la_ : Nat → Int32} {sr : Nat → Int64} {x0 x1 x2 x4 x5 x6 x7 x8 x9 : Int32} {Q : cx_Q} (hW : RmW w n gt q pl d s lt st oc os ol ob pa dl ch gr so la_ sr) (h45 : w 45 = oM x0 x1 x2 (nI n) x4 x5 x6 x7 x8 x9)
    (hQ : ∀ (w1 : cx_W) (fr sl : Nat → Int32) (F S : Nat → Nat → Nat) (l2 l3 : Option Value), w1 79 = ai 2304 fr → w1 80 = ai 2304 sl → (∀ k, frM k → w1 k = w k) → MxR n fr sl F S → EdI n gt pl d s lt F S 192 → cx_OK none mM_measure 10 0 0 Q 114 [some (.ref 45), some (.int (nI 0)), l2, l3] [] w1 (87, 0, 0)) :
    ∀ (m i : Nat) (w1 : cx_W) (fr sl : Nat → Int32) (F S : Nat → Nat → Nat) (l2 l3 : Option Value), i + m = 192 → w1 79 = ai 2304 fr → w1 80 = ai 2304 sl → (∀ k, frM k → w1 k = w k) → MxR n fr sl F S → EdI n gt pl d s lt F S i →
    cx_OK none mM_measure 10 0 0 Q 47 [some (.ref 45), some (.int (nI i)), l2, l3] [] w1 (87, 0, 0) := by
  have hpl := pl4 hW
  obtain ⟨⟨hn, hoc, h61, h63, h68, h70, h73, h74, h75⟩, hB, hgd, hd, hcn, hno, hon, hoo⟩ := hW
  intro m
  induction m with
  | zero =>
    intro i w1 fr sl F S l2 l3 hi h79 h80 hk hM hI
    have E : ((192 : Int32) ≤ nI i) = True := (lek (a := i) (c := 192) (x := 192) rfl (by omega) (by decide)).trans (eq_true (by omega))
    have e : i = 192 := by omega
    subst e
    refine cx_run 100 mM_measure_mo ?_
    simp (decide := true) only [BmM_measure, BSM, E, EV, EW, CT, ev_o, ev_is, ev_gd, List.length_cons, List.length_nil, Nat.reduceLT, Nat.reduceAdd, Nat.reduceEqDiff, Nat.reduceLeDiff, Int32.reduceLT, Int32.reduceLE, reduceIte, true_and, and_true, true_or, or_true, not_true_eq_false, not_false_eq_true, false_imp_iff, true_imp_iff, implies_true]
    exact hQ w1 fr sl F S _ _ h79 h80 hk hM hI
  | succ m ih =>
    intro i w1 fr sl F S l2 l3 hi h79 h80 hk hM hI
    have E : ((192 : Int32) ≤ nI i) = False := (lek (a := i) (c := 192) (x := 192) rfl (by omega) (by decide)).trans (eq_false (by omega))
    have k45 := (hk 45 (by decide)).trans h45
    have k63 := (hk 63 (by decide)).trans h63
    have k68 := (hk 68 (by decide)).trans h68
    have k70 := (hk 70 (by decide)).trans h70
    have k73 := (hk 73 (by decide)).trans h73
    have k74 := (hk 74 (by decide)).trans h74
    have v1 : vp_in (nI i) 196 := nI_in (by omega) (by decide)
    have D := divK (a := i) (c := 4) (x := 4) rfl (by omega) (by decide)
    refine cx_run 140 mM_measure_mo ?_
    by_cases vd : gt (i / 4) ∧ i % 4 < pl (i / 4)
    · obtain ⟨hg, hp⟩ := vd
      have hcp := hcn (i / 4) (i % 4) hg hp
      rw [Nat.div_add_mod] at hcp
      obtain ⟨c1, c2, c3, c4, c5, c6⟩ := hcp
      have P0 : (nI (s (i / 4) (i % 4)) < 0) = False := eq_false (nI_pos (by omega))
      have vs : vp_in (nI (s (i / 4) (i % 4))) 48 := nI_in (by omega) (by decide)
      have hgn := (hgd _ hg).1
      by_cases gs : gt (s (i / 4) (i % 4))
      · have B1 : gr (s (i / 4) (i % 4)) = 1 := (hB _ (by omega)).1 gs
        by_cases ne : s (i / 4) (i % 4) = i / 4
        · have Z : (nI (s (i / 4) (i % 4)) = nI (i / 4)) = True := eq_true (by rw [ne])
          simp (decide := true) only [BmM_measure, BSM, k45, k73, k70, E, v1, vs, c1, P0, B1, D, Z, nI_clamp (n := i) (by omega), nI_clamp (n := s (i / 4) (i % 4)) (by omega), nI_1, EV, EW, CT, ev_o, ev_is, ev_gd, List.length_cons, List.length_nil, Nat.reduceLT, Nat.reduceAdd, Nat.reduceEqDiff, Nat.reduceLeDiff, Int32.reduceLT, Int32.reduceLE, reduceIte, true_and, and_true, true_or, or_true, not_true_eq_false, not_false_eq_true, false_imp_iff, true_imp_iff, implies_true]
          exact ih (i + 1) w1 fr sl F S _ _ (by omega) h79 h80 hk hM (EdI_skip hpl hI fun _ _ _ => ne)
        · have Z : (nI (s (i / 4) (i % 4)) = nI (i / 4)) = False := (eqN (by omega) (by omega)).trans (eq_false ne)
          obtain ⟨_, _, _, c, cc1, cc2, cc3, cc4⟩ := hgd _ gs
          have vc : vp_in (nI c) 8 := nI_in cc1 (by decide)
          have va : vp_in (nI (48 * s (i / 4) (i % 4) + i / 4)) 2304 := nI_in (by omega) (by decide)
          obtain ⟨m1, m2, m3, m4⟩ := hM (s (i / 4) (i % 4)) (i / 4) c4 hgn
          have hds := hd (s (i / 4) (i % 4))
          have hI' := hI
          rw [show i = 4 * (i / 4) + i % 4 from (Nat.div_add_mod i 4).symm] at hI'
          have put : (lt (i / 4) (i % 4) < F (s (i / 4) (i % 4)) (i / 4) ∨ (lt (i / 4) (i % 4) = F (s (i / 4) (i % 4)) (i / 4) ∧ S (s (i / 4) (i % 4)) (i / 4) < d (s (i / 4) (i % 4)))) → ∀ l2 l3, cx_OK none mM_measure 10 0 0 Q 47 [some (.ref 45), some (.int (nI (i + 1))), l2, l3] [] (cx_up (cx_up w1 79 (ai 2304 (upd fr (48 * s (i / 4) (i % 4) + i / 4) (nI (lt (i / 4) (i % 4)))))) 80 (ai 2304 (upd sl (48 * s (i / 4) (i % 4) + i / 4) (nI (d (s (i / 4) (i % 4))))))) (87, 0, 0) := fun hc l2 l3 => by
            refine ih (i + 1) _ _ _ (putM F (s (i / 4) (i % 4)) (i / 4) (lt (i / 4) (i % 4))) (putM S (s (i / 4) (i % 4)) (i / 4) (d (s (i / 4) (i % 4)))) _ _ (by omega) (by simp only [cx_up, Nat.reduceEqDiff, reduceIte]) (by simp only [cx_up, Nat.reduceEqDiff, reduceIte]) (fun k z => by rw [← hk k z]; simp (disch := omega) only [cx_up, if_neg]) (hM.put hn hgn (by omega) (by omega)) ?_
            have := EdI_put (F := F) (S := S) hpl c5 hI' hg hp gs ne hc
            rw [Nat.div_add_mod] at this
            exact this
          have keep : ¬ (lt (i / 4) (i % 4) < F (s (i / 4) (i % 4)) (i / 4) ∨ (lt (i / 4) (i % 4) = F (s (i / 4) (i % 4)) (i / 4) ∧ S (s (i / 4) (i % 4)) (i / 4) < d (s (i / 4) (i % 4)))) → ∀ l2 l3, cx_OK none mM_measure 10 0 0 Q 47 [some (.ref 45), some (.int (nI (i + 1))), l2, l3] [] w1 (87, 0, 0) := fun hc l2 l3 => by
            refine ih (i + 1) w1 fr sl F S _ _ (by omega) h79 h80 hk hM ?_
            have := EdI_keep (F := F) (S := S) hpl c5 hI' hg hp hc
            rw [Nat.div_add_mod] at this
            exact this
          by_cases b1 : lt (i / 4) (i % 4) < F (s (i / 4) (i % 4)) (i / 4)
          · have T1 := ltT (a := lt (i / 4) (i % 4)) (b := F (s (i / 4) (i % 4)) (i / 4)) b1 (by omega)
            simp (decide := true) only [BmM_measure, BSM, k45, k63, k68, k70, k73, k74, h79, h80, E, v1, vs, vc, va, c1, c2, cc2, cc4, P0, B1, D, Z, T1, m1, m2, mu48, nI_add, nI_clamp (n := i) (by omega), nI_clamp (n := c) (by omega), nI_clamp (n := s (i / 4) (i % 4)) (by omega), nI_clamp (n := 48 * s (i / 4) (i % 4) + i / 4) (by omega), nI_1, EV, EW, CT, ev_o, ev_is, ev_gd, List.length_cons, List.length_nil, Nat.reduceLT, Nat.reduceAdd, Nat.reduceEqDiff, Nat.reduceLeDiff, Int32.reduceLT, Int32.reduceLE, reduceIte, true_and, and_true, true_or, or_true, not_true_eq_false, not_false_eq_true, false_imp_iff, true_imp_iff, implies_true]
            exact put (.inl b1) _ _
          · have T1 := ltF (a := lt (i / 4) (i % 4)) (b := F (s (i / 4) (i % 4)) (i / 4)) (by omega) (by omega)
            by_cases b2 : lt (i / 4) (i % 4) = F (s (i / 4) (i % 4)) (i / 4)
            · have T2 : (nI (lt (i / 4) (i % 4)) = nI (F (s (i / 4) (i % 4)) (i / 4))) = True := eq_true (by rw [b2])
              by_cases b3 : S (s (i / 4) (i % 4)) (i / 4) < d (s (i / 4) (i % 4))
              · have T3 := leF (a := d (s (i / 4) (i % 4))) (b := S (s (i / 4) (i % 4)) (i / 4)) b3 (by omega)
                simp (decide := true) only [BmM_measure, BSM, k45, k63, k68, k70, k73, k74, h79, h80, E, v1, vs, vc, va, c1, c2, cc2, cc4, P0, B1, D, Z, T1, T2, T3, m1, m2, mu48, nI_add, nI_clamp (n := i) (by omega), nI_clamp (n := c) (by omega), nI_clamp (n := s (i / 4) (i % 4)) (by omega), nI_clamp (n := 48 * s (i / 4) (i % 4) + i / 4) (by omega), nI_1, EV, EW, CT, ev_o, ev_is, ev_gd, List.length_cons, List.length_nil, Nat.reduceLT, Nat.reduceAdd, Nat.reduceEqDiff, Nat.reduceLeDiff, Int32.reduceLT, Int32.reduceLE, reduceIte, true_and, and_true, true_or, or_true, not_true_eq_false, not_false_eq_true, false_imp_iff, true_imp_iff, implies_true]
                exact put (.inr ⟨b2, b3⟩) _ _
              · have T3 := leT (a := d (s (i / 4) (i % 4))) (b := S (s (i / 4) (i % 4)) (i / 4)) (by omega) (by omega)
                simp (decide := true) only [BmM_measure, BSM, k45, k63, k68, k70, k73, k74, h79, h80, E, v1, vs, vc, va, c1, c2, cc2, cc4, P0, B1, D, Z, T1, T2, T3, m1, m2, mu48, nI_add, nI_clamp (n := i) (by omega), nI_clamp (n := c) (by omega), nI_clamp (n := s (i / 4) (i % 4)) (by omega), nI_clamp (n := 48 * s (i / 4) (i % 4) + i / 4) (by omega), nI_1, EV, EW, CT, ev_o, ev_is, ev_gd, List.length_cons, List.length_nil, Nat.reduceLT, Nat.reduceAdd, Nat.reduceEqDiff, Nat.reduceLeDiff, Int32.reduceLT, Int32.reduceLE, reduceIte, true_and, and_true, true_or, or_true, not_true_eq_false, not_false_eq_true, false_imp_iff, true_imp_iff, implies_true]
                exact keep (by omega) _ _
            · have T2 : (nI (lt (i / 4) (i % 4)) = nI (F (s (i / 4) (i % 4)) (i / 4))) = False := (eqN (by omega) (by omega)).trans (eq_false b2)
              simp (decide := true) only [BmM_measure, BSM, k45, k63, k68, k70, k73, k74, h79, h80, E, v1, vs, vc, va, c1, c2, cc2, cc4, P0, B1, D, Z, T1, T2, m1, m2, mu48, nI_add, nI_clamp (n := i) (by omega), nI_clamp (n := c) (by omega), nI_clamp (n := s (i / 4) (i % 4)) (by omega), nI_clamp (n := 48 * s (i / 4) (i % 4) + i / 4) (by omega), nI_1, EV, EW, CT, ev_o, ev_is, ev_gd, List.length_cons, List.length_nil, Nat.reduceLT, Nat.reduceAdd, Nat.reduceEqDiff, Nat.reduceLeDiff, Int32.reduceLT, Int32.reduceLE, reduceIte, true_and, and_true, true_or, or_true, not_true_eq_false, not_false_eq_true, false_imp_iff, true_imp_iff, implies_true]
              exact keep (by omega) _ _
      · have B1 : gr (s (i / 4) (i % 4)) = 0 := (hB _ (by omega)).2 gs
        simp (decide := true) only [BmM_measure, BSM, k45, k73, k70, E, v1, vs, c1, P0, B1, nI_clamp (n := i) (by omega), nI_clamp (n := s (i / 4) (i % 4)) (by omega), nI_1, EV, EW, CT, ev_o, ev_is, ev_gd, List.length_cons, List.length_nil, Nat.reduceLT, Nat.reduceAdd, Nat.reduceEqDiff, Nat.reduceLeDiff, Int32.reduceLT, Int32.reduceLE, reduceIte, true_and, and_true, true_or, or_true, not_true_eq_false, not_false_eq_true, false_imp_iff, true_imp_iff, implies_true]
        exact ih (i + 1) w1 fr sl F S _ _ (by omega) h79 h80 hk hM (EdI_skip hpl hI fun _ _ z => absurd z gs)
    · have c1 := hno i (by omega) vd
      simp (decide := true) only [BmM_measure, BSM, k45, k73, E, v1, c1, nI_clamp (n := i) (by omega), nI_1, EV, EW, CT, ev_o, ev_is, ev_gd, List.length_cons, List.length_nil, Nat.reduceLT, Nat.reduceAdd, Nat.reduceEqDiff, Nat.reduceLeDiff, Int32.reduceLT, Int32.reduceLE, reduceIte, true_and, and_true, true_or, or_true, not_true_eq_false, not_false_eq_true, false_imp_iff, true_imp_iff, implies_true]
      exact ih (i + 1) w1 fr sl F S _ _ (by omega) h79 h80 hk hM (EdI_skip hpl hI fun a b _ => absurd ⟨a, b⟩ vd)
