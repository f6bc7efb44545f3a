/-! Laying a cell on a node: the given side. Printed by gen_lay.py. -/
/-- the row holds the list, its head at the highest place -/
def Stk (row : Nat → Int32) : List Nat → Prop
  | [] => True
  | n :: l => row l.length = nI n ∧ Stk row l
theorem Stk.put {row : Nat → Int32} {x : Int32} : ∀ {l : List Nat} {i : Nat}, Stk row l → l.length ≤ i → Stk (upd row i x) l
  | [], _, _, _ => trivial
  | n :: l, i, h, hi => ⟨by rw [pk_un (by simp only [List.length_cons] at hi; omega)]; exact h.1, Stk.put h.2 (by simp only [List.length_cons] at hi; omega)⟩
theorem Stk.push {row : Nat → Int32} {l : List Nat} {n : Nat} (h : Stk row l) : Stk (upd row l.length (nI n)) (n :: l) := ⟨pk_us, h.put (Nat.le_refl _)⟩
def rtU (kd : Nat → Nat) (need : Nat → Bool) (us : Nat → Nat) (j : Nat) : Bool := decide (kd j = 2 ∨ kd j = 3) && (need j || decide (1 < us j))
theorem rtU_f {kd : Nat → Nat} {need : Nat → Bool} {us : Nat → Nat} {j : Nat} (hk : kd j = 2 ∨ kd j = 3) (h : rtU kd need us j = false) : need j = false ∧ ¬ 1 < us j := by
  unfold rtU at h
  rw [decide_eq_true hk, Bool.true_and, Bool.or_eq_false_iff] at h
  exact ⟨h.1, of_decide_eq_false h.2⟩
theorem rtU_t {kd : Nat → Nat} {need : Nat → Bool} {us : Nat → Nat} {j : Nat} (h : rtU kd need us j = true) : (kd j = 2 ∨ kd j = 3) ∧ (need j = true ∨ (need j = false ∧ 1 < us j)) := by
  unfold rtU at h
  rw [Bool.and_eq_true, Bool.or_eq_true] at h
  refine ⟨of_decide_eq_true h.1, ?_⟩
  cases e : need j
  · rcases h.2 with q | q
    · rw [e] at q; cases q
    · exact .inr ⟨rfl, of_decide_eq_true q⟩
  · exact .inl rfl
/-- what laying reads -/
def CoW (w : cx_W) (G : Gr) (kd px py : Nat → Nat) (need : Nat → Bool) (us : Nat → Nat) (fn gu pa ndc : Nat → Int32) : Prop :=
  GW w G ∧ G.1 ≤ 48 ∧ GK G kd px py ∧ (∃ x, w 20 = oCo x) ∧ (∃ x, w 13 = oLi x) ∧ w 14 = ai 8 pa ∧ w 18 = ai 8 ndc ∧ w 21 = az 48 fn ∧ BR 48 fn (fun j => need j = true) ∧ w 22 = ai 48 gu ∧ (∀ j, j < 48 → gu j = nI (us j)) ∧ ∀ j, us j ≤ 96
set_option maxHeartbeats 16000000 in
theorem lay_loop {w : cx_W} {G : Gr} {kd px py : Nat → Nat} {need : Nat → Bool} {us : Nat → Nat} {fn gu pa ndc : Nat → Int32} {c sw q : Nat} {tp : Int32} {Q : cx_Q} {dd : Nat} (hW : CoW w G kd px py need us fn gu pa ndc) (hc : c < 8) (hpa : pa c = nI q) (hq : q < 16384) (hsw : sw < 8) :
    ∀ (f i d : Nat) (stk ps : List Nat) (bit : Nat) (w1 : cx_W) (op lp : Nat → Int32) (l8 l9 l10 : Option Value), i + f = 8 → d = q / 4 ^ i → pt f d stk.length = true → (∀ x, x ∈ stk → x < G.1) → Stk op stk → Stk lp ps → ps.length + cdr 1 f d ≤ 4 → cdr 3 f d ≤ bit → bit ≤ 3 → stk.length ≤ i + 1 →
    w1 27 = ai 8 op → w1 26 = ai 4 lp → (∀ k, ¬ k = 26 ∧ ¬ k = 27 → w1 k = w k) →
    (∀ pins, layN kd px py (rtU kd need us) sw f d (decide (i = 0)) stk ps bit = some pins → ∀ (w2 : cx_W) (op2 lp2 : Nat → Int32), w2 27 = ai 8 op2 → w2 26 = ai 4 lp2 → (∀ k, ¬ k = 26 ∧ ¬ k = 27 → w2 k = w k) → Stk lp2 pins → Q (some (.int 1)) w2 (87, 0, 0)) →
    (layN kd px py (rtU kd need us) sw f d (decide (i = 0)) stk ps bit = none → ∀ (w2 : cx_W) (op2 lp2 : Nat → Int32), w2 27 = ai 8 op2 → w2 26 = ai 4 lp2 → (∀ k, ¬ k = 26 ∧ ¬ k = 27 → w2 k = w k) → Q (some (.int 0)) w2 (87, 0, 0)) →
    cx_OK none mCo_lay (dd + 2) 0 0 Q 30 [some (.ref 20), some (.int (nI c)), some (.int tp), some (.int (nI sw)), some (.int (nI stk.length)), some (.int (nI ps.length)), some (.int (nI bit)), some (.int (nI i)), l8, l9, l10] [] w1 (87, 0, 0) := by
  obtain ⟨⟨g1, g2, g3, g4⟩, hn, hK, ⟨x20, h20⟩, ⟨x13, h13⟩, h14, h18, h21, hfn, h22, hgu, hus⟩ := hW
  have vc : vp_in (nI c) 8 := nI_in hc (by decide)
  intro f
  induction f with
  | zero => intro i d stk ps bit w1 op lp l8 l9 l10 _ _ h; exact absurd h (by simp [pt])
  | succ f ih =>
    intro i d stk ps bit w1 op lp l8 l9 l10 hi hd hpt hst hop hlp hps hbit hb3 hdep h27 h26 hk hS hN
    have k1 := (hk 1 (by decide)).trans g1
    have k2 := (hk 2 (by decide)).trans g2
    have k3 := (hk 3 (by decide)).trans g3
    have k4 := (hk 4 (by decide)).trans g4
    have k20 := (hk 20 (by decide)).trans h20
    have k13 := (hk 13 (by decide)).trans h13
    have k14 := (hk 14 (by decide)).trans h14
    have k21 := (hk 21 (by decide)).trans h21
    have k22 := (hk 22 (by decide)).trans h22
    match stk, hpt, hst, hop, hdep, hS, hN with
    | [], hpt, hst, hop, hdep, hS, hN =>
      have d0 : d = 0 := by
        by_cases e : d = 0
        · exact e
        · rw [List.length_nil, pt_s e, if_pos (.inr rfl)] at hpt; cases hpt
      have fin := hS ps (by rw [lay_n, if_pos d0]) w1 op lp h27 h26 hk hlp
      refine cx_run 200 mCo_lay_mo ?_
      by_cases e7 : 7 ≤ i
      · have E := (le7 (k := i) (by omega)).trans (eq_true e7)
        simp (decide := true) only [BmCo_lay, E, EV, EW, CT, ev_o, ev_is, ev_gd, List.length_cons, List.length_nil, Nat.reduceLT, Nat.reduceAdd, Nat.reduceEqDiff, Nat.reduceLeDiff, Int32.reduceLT, Int32.reduceLE, reduceIte, true_and, and_true, true_or, or_true, not_true_eq_false, not_false_eq_true, false_imp_iff, true_imp_iff, implies_true]
        exact fin
      · have E := (le7 (k := i) (by omega)).trans (eq_false e7)
        simp (decide := true) only [BmCo_lay, E, nI_0, EV, EW, CT, ev_o, ev_is, ev_gd, List.length_cons, List.length_nil, Nat.reduceLT, Nat.reduceAdd, Nat.reduceEqDiff, Nat.reduceLeDiff, Int32.reduceLT, Int32.reduceLE, reduceIte, true_and, and_true, true_or, or_true, not_true_eq_false, not_false_eq_true, false_imp_iff, true_imp_iff, implies_true]
        exact fin
    | n :: s, hpt, hst, hop, hdep, hS, hN =>
      have d0 : ¬ d = 0 := by
        intro e
        rw [e, List.length_cons, pt_d] at hpt
        simp at hpt
      rw [List.length_cons, pt_s d0] at hpt
      have dz : ¬ (d % 4 = 0 ∨ s.length + 1 = 0) := fun z => by rw [if_pos z] at hpt; cases hpt
      rw [if_neg dz] at hpt
      have hi7 : i < 7 := by
        by_cases e : i < 7
        · exact e
        · have : i = 7 := by omega
          rw [hd, this, Nat.div_eq_of_lt hq] at d0; exact absurd rfl d0
      have E7 := (le7 (k := i) (by omega)).trans (eq_false (by omega))
      have dg : dgt q i = d % 4 := by rw [hd]; rfl
      have eD := dgtI (q := q) (k := i) (by omega) (by omega)
      have dd4 : d / 4 = q / 4 ^ (i + 1) := by rw [hd, Nat.div_div_eq_div_mul, Nat.pow_succ]
      rw [List.length_cons] at hdep
      have hsl : s.length ≤ 7 := by omega
      have eL : (nI (s.length + 1) ≤ 0) = False := eq_false (Int32.not_le.mpr (nI_lt (a := 0) (by omega) (by omega)))
      have m1 : nI (s.length + 1) + -1 = nI s.length := pk_m1 _
      have vS : vp_in (nI s.length) 8 := nI_in (by omega) (by decide)
      have hopn := hop.1
      have hnG := hst n (List.mem_cons_self ..)
      have vN : vp_in (nI n) 48 := nI_in (by omega) (by decide)
      have hss : ∀ x, x ∈ s → x < G.1 := fun x hx => hst x (List.mem_cons_of_mem _ hx)
      have ⟨e1, e2, e3, e4⟩ := hK n hnG
      have f0 : (decide (i + 1 = 0)) = false := rfl
      rw [cdr, if_neg d0] at hps hbit
      rw [lay_s, if_neg d0] at hS hN
      by_cases a1 : d % 4 = 1
      · -- a pin
        rw [if_pos a1] at hps hS hN
        rw [if_neg (by omega)] at hbit
        rw [dg, a1] at eD
        rw [a1, show s.length + 1 + 1 - 2 = s.length by omega] at hpt
        have vP : vp_in (nI ps.length) 4 := nI_in (by omega) (by decide)
        have nx := ih (i + 1) (d / 4) s (n :: ps) bit (cx_up w1 26 (ai 4 (upd lp ps.length (nI n)))) op (upd lp ps.length (nI n)) (some (.int (nI 1))) (some (.int (nI n))) l10 (by omega) dd4 hpt hss hop.2 hlp.push (by simp only [List.length_cons]; omega) (by omega) hb3 (by omega)
          (by simp only [cx_up, Nat.reduceEqDiff, reduceIte]; exact h27) (by simp only [cx_up, Nat.reduceEqDiff, reduceIte]) (fun k z => by rw [← hk k z]; simp (disch := omega) only [cx_up, if_neg]) hS hN
        refine cx_run 200 mCo_lay_mo ?_
        simp (decide := true) only [BmCo_lay, BSC, List.length_cons, k20, k13, k14, h26, h27, E7, eL, m1, vc, vS, vP, hpa, hopn, eD, nI_clamp (n := c) (by omega), nI_clamp (n := s.length) (by omega), nI_clamp (n := ps.length) (by omega), nI_1, EV, EW, CT, ev_o, ev_is, ev_gd, List.length_cons, List.length_nil, Nat.reduceLT, Nat.reduceAdd, Nat.reduceEqDiff, Nat.reduceLeDiff, Int32.reduceLT, Int32.reduceLE, reduceIte, true_and, and_true, true_or, or_true, not_true_eq_false, not_false_eq_true, false_imp_iff, true_imp_iff, implies_true]
        exact nx
      · rw [if_neg a1] at hps hS hN
        have hdl := Nat.mod_lt d (show 4 > 0 by decide)
        have fnn := hfn n (by omega)
        have gun := hgu n (by omega)
        have usn := hus n
        by_cases a2 : d % 4 = 2
        · rw [dg, a2] at eD
          rw [if_neg (by omega)] at hbit
          rw [a2, show s.length + 1 + 2 - 2 = s.length + 1 by omega] at hpt
          rcases (show kd n = 0 ∨ kd n = 1 ∨ kd n = 2 ∨ kd n = 3 by omega) with kk | kk | kk | kk
          · have KD : G.2.1 n = 0 := by rw [e1, kk]; rfl
            by_cases p0 : i = 0
            · have EP : (nI i ≤ 0) = True := eq_true (by rw [p0]; decide)
              have none_ := hN (by rw [if_pos (.inr (.inl (by omega)))]) w1 op lp h27 h26 hk
              refine cx_run 200 mCo_lay_mo ?_
              simp (decide := true) only [KD, EP, BmCo_lay, BSC, List.length_cons, k20, k13, k14, k1, k2, k21, k22, h26, h27, E7, eL, m1, vc, vS, vN, hpa, hopn, eD, nI_clamp (n := c) (by omega), nI_clamp (n := s.length) (by omega), nI_clamp (n := n) (by omega), nI_1, EV, EW, CT, ev_o, ev_is, ev_gd, List.length_cons, List.length_nil, Nat.reduceLT, Nat.reduceAdd, Nat.reduceEqDiff, Nat.reduceLeDiff, Int32.reduceLT, Int32.reduceLE, reduceIte, true_and, and_true, true_or, or_true, not_true_eq_false, not_false_eq_true, false_imp_iff, true_imp_iff, implies_true]
              exact none_
            · have EP : (nI i ≤ 0) = False := eq_false (Int32.not_le.mpr (nI_lt (a := 0) (by omega) (by omega)))
              have none_ := hN (by rw [if_pos (.inr (.inl (by omega)))]) w1 op lp h27 h26 hk
              refine cx_run 200 mCo_lay_mo ?_
              simp (decide := true) only [KD, EP, BmCo_lay, BSC, List.length_cons, k20, k13, k14, k1, k2, k21, k22, h26, h27, E7, eL, m1, vc, vS, vN, hpa, hopn, eD, nI_clamp (n := c) (by omega), nI_clamp (n := s.length) (by omega), nI_clamp (n := n) (by omega), nI_1, EV, EW, CT, ev_o, ev_is, ev_gd, List.length_cons, List.length_nil, Nat.reduceLT, Nat.reduceAdd, Nat.reduceEqDiff, Nat.reduceLeDiff, Int32.reduceLT, Int32.reduceLE, reduceIte, true_and, and_true, true_or, or_true, not_true_eq_false, not_false_eq_true, false_imp_iff, true_imp_iff, implies_true]
              exact none_
          · have KD : G.2.1 n = 1 := by rw [e1, kk]; rfl
            by_cases p0 : i = 0
            · have EP : (nI i ≤ 0) = True := eq_true (by rw [p0]; decide)
              have none_ := hN (by rw [if_pos (.inr (.inl (by omega)))]) w1 op lp h27 h26 hk
              refine cx_run 200 mCo_lay_mo ?_
              simp (decide := true) only [KD, EP, BmCo_lay, BSC, List.length_cons, k20, k13, k14, k1, k2, k21, k22, h26, h27, E7, eL, m1, vc, vS, vN, hpa, hopn, eD, nI_clamp (n := c) (by omega), nI_clamp (n := s.length) (by omega), nI_clamp (n := n) (by omega), nI_1, EV, EW, CT, ev_o, ev_is, ev_gd, List.length_cons, List.length_nil, Nat.reduceLT, Nat.reduceAdd, Nat.reduceEqDiff, Nat.reduceLeDiff, Int32.reduceLT, Int32.reduceLE, reduceIte, true_and, and_true, true_or, or_true, not_true_eq_false, not_false_eq_true, false_imp_iff, true_imp_iff, implies_true]
              exact none_
            · have EP : (nI i ≤ 0) = False := eq_false (Int32.not_le.mpr (nI_lt (a := 0) (by omega) (by omega)))
              have none_ := hN (by rw [if_pos (.inr (.inl (by omega)))]) w1 op lp h27 h26 hk
              refine cx_run 200 mCo_lay_mo ?_
              simp (decide := true) only [KD, EP, BmCo_lay, BSC, List.length_cons, k20, k13, k14, k1, k2, k21, k22, h26, h27, E7, eL, m1, vc, vS, vN, hpa, hopn, eD, nI_clamp (n := c) (by omega), nI_clamp (n := s.length) (by omega), nI_clamp (n := n) (by omega), nI_1, EV, EW, CT, ev_o, ev_is, ev_gd, List.length_cons, List.length_nil, Nat.reduceLT, Nat.reduceAdd, Nat.reduceEqDiff, Nat.reduceLeDiff, Int32.reduceLT, Int32.reduceLE, reduceIte, true_and, and_true, true_or, or_true, not_true_eq_false, not_false_eq_true, false_imp_iff, true_imp_iff, implies_true]
              exact none_
          · have KD : G.2.1 n = 2 := by rw [e1, kk]; rfl
            have hlog : kd n = 2 ∨ kd n = 3 := by omega
            have ⟨x1, x2⟩ := e3 hlog
            by_cases p0 : i = 0
            · have EP : (nI i ≤ 0) = True := eq_true (by rw [p0]; decide)
              rw [if_neg (fun z => z.elim (fun z => by omega) fun z => z.elim (fun z => by omega) fun z => absurd p0 (of_decide_eq_false z.1)), if_pos a2] at hS hN
              have nx := ih (i + 1) (d / 4) (px n :: s) ps bit (cx_up w1 27 (ai 8 (upd op s.length (nI (px n))))) (upd op s.length (nI (px n))) lp (some (.int (nI 2))) (some (.int (nI n))) l10 (by omega) dd4 hpt (fun x hx => (List.mem_cons.mp hx).elim (fun e => by omega) (hss x)) hop.2.push hlp (by omega) (by omega) hb3 (by simp only [List.length_cons]; omega)
                (by simp only [cx_up, Nat.reduceEqDiff, reduceIte]) (by simp only [cx_up, Nat.reduceEqDiff, reduceIte]; exact h26) (fun k z => by rw [← hk k z]; simp (disch := omega) only [cx_up, if_neg]) hS hN
              refine cx_run 200 mCo_lay_mo ?_
              simp (decide := true) only [KD, EP, x1, k3, BmCo_lay, BSC, List.length_cons, k20, k13, k14, k1, k2, k21, k22, h26, h27, E7, eL, m1, vc, vS, vN, hpa, hopn, eD, nI_clamp (n := c) (by omega), nI_clamp (n := s.length) (by omega), nI_clamp (n := n) (by omega), nI_1, EV, EW, CT, ev_o, ev_is, ev_gd, List.length_cons, List.length_nil, Nat.reduceLT, Nat.reduceAdd, Nat.reduceEqDiff, Nat.reduceLeDiff, Int32.reduceLT, Int32.reduceLE, reduceIte, true_and, and_true, true_or, or_true, not_true_eq_false, not_false_eq_true, false_imp_iff, true_imp_iff, implies_true]
              exact nx
            · have EP : (nI i ≤ 0) = False := eq_false (Int32.not_le.mpr (nI_lt (a := 0) (by omega) (by omega)))
              cases hr : rtU kd need us n
              · have ⟨r1, r2⟩ := rtU_f hlog hr
                have F1 : fn n = 0 := fnn.2 (fun (z : need n = true) => by rw [r1] at z; cases z)
                have F2 : (nI (us n) ≤ 1) = True := eq_true (nI_le (b := 1) (by omega) (by decide))
                rw [if_neg (fun z => z.elim (fun z => by omega) fun z => z.elim (fun z => by omega) fun z => by have y := z.2; rw [hr] at y; cases y), if_pos a2] at hS hN
                have nx := ih (i + 1) (d / 4) (px n :: s) ps bit (cx_up w1 27 (ai 8 (upd op s.length (nI (px n))))) (upd op s.length (nI (px n))) lp (some (.int (nI 2))) (some (.int (nI n))) l10 (by omega) dd4 hpt (fun x hx => (List.mem_cons.mp hx).elim (fun e => by omega) (hss x)) hop.2.push hlp (by omega) (by omega) hb3 (by simp only [List.length_cons]; omega)
                  (by simp only [cx_up, Nat.reduceEqDiff, reduceIte]) (by simp only [cx_up, Nat.reduceEqDiff, reduceIte]; exact h26) (fun k z => by rw [← hk k z]; simp (disch := omega) only [cx_up, if_neg]) hS hN
                refine cx_run 200 mCo_lay_mo ?_
                simp (decide := true) only [KD, EP, F1, F2, gun, x1, k3, BmCo_lay, BSC, List.length_cons, k20, k13, k14, k1, k2, k21, k22, h26, h27, E7, eL, m1, vc, vS, vN, hpa, hopn, eD, nI_clamp (n := c) (by omega), nI_clamp (n := s.length) (by omega), nI_clamp (n := n) (by omega), nI_1, EV, EW, CT, ev_o, ev_is, ev_gd, List.length_cons, List.length_nil, Nat.reduceLT, Nat.reduceAdd, Nat.reduceEqDiff, Nat.reduceLeDiff, Int32.reduceLT, Int32.reduceLE, reduceIte, true_and, and_true, true_or, or_true, not_true_eq_false, not_false_eq_true, false_imp_iff, true_imp_iff, implies_true]
                exact nx
              · rcases (rtU_t hr).2 with r1 | ⟨r1, r2⟩
                · have F1 : fn n = 1 := fnn.1 r1
                  have none_ := hN (by rw [if_pos (.inr (.inr ⟨decide_eq_false p0, hr⟩))]) w1 op lp h27 h26 hk
                  refine cx_run 200 mCo_lay_mo ?_
                  simp (decide := true) only [KD, EP, F1, BmCo_lay, BSC, List.length_cons, k20, k13, k14, k1, k2, k21, k22, h26, h27, E7, eL, m1, vc, vS, vN, hpa, hopn, eD, nI_clamp (n := c) (by omega), nI_clamp (n := s.length) (by omega), nI_clamp (n := n) (by omega), nI_1, EV, EW, CT, ev_o, ev_is, ev_gd, List.length_cons, List.length_nil, Nat.reduceLT, Nat.reduceAdd, Nat.reduceEqDiff, Nat.reduceLeDiff, Int32.reduceLT, Int32.reduceLE, reduceIte, true_and, and_true, true_or, or_true, not_true_eq_false, not_false_eq_true, false_imp_iff, true_imp_iff, implies_true]
                  exact none_
                · have F1 : fn n = 0 := fnn.2 (fun (z : need n = true) => by rw [r1] at z; cases z)
                  have F2 : (nI (us n) ≤ 1) = False := eq_false (Int32.not_le.mpr (nI_lt (a := 1) r2 (by omega)))
                  have none_ := hN (by rw [if_pos (.inr (.inr ⟨decide_eq_false p0, hr⟩))]) w1 op lp h27 h26 hk
                  refine cx_run 200 mCo_lay_mo ?_
                  simp (decide := true) only [KD, EP, F1, F2, gun, BmCo_lay, BSC, List.length_cons, k20, k13, k14, k1, k2, k21, k22, h26, h27, E7, eL, m1, vc, vS, vN, hpa, hopn, eD, nI_clamp (n := c) (by omega), nI_clamp (n := s.length) (by omega), nI_clamp (n := n) (by omega), nI_1, EV, EW, CT, ev_o, ev_is, ev_gd, List.length_cons, List.length_nil, Nat.reduceLT, Nat.reduceAdd, Nat.reduceEqDiff, Nat.reduceLeDiff, Int32.reduceLT, Int32.reduceLE, reduceIte, true_and, and_true, true_or, or_true, not_true_eq_false, not_false_eq_true, false_imp_iff, true_imp_iff, implies_true]
                  exact none_
          · have KD : G.2.1 n = 3 := by rw [e1, kk]; rfl
            have hlog : kd n = 2 ∨ kd n = 3 := by omega
            by_cases p0 : i = 0
            · have EP : (nI i ≤ 0) = True := eq_true (by rw [p0]; decide)
              have none_ := hN (by rw [if_pos (.inr (.inl (by omega)))]) w1 op lp h27 h26 hk
              refine cx_run 200 mCo_lay_mo ?_
              simp (decide := true) only [KD, EP, BmCo_lay, BSC, List.length_cons, k20, k13, k14, k1, k2, k21, k22, h26, h27, E7, eL, m1, vc, vS, vN, hpa, hopn, eD, nI_clamp (n := c) (by omega), nI_clamp (n := s.length) (by omega), nI_clamp (n := n) (by omega), nI_1, EV, EW, CT, ev_o, ev_is, ev_gd, List.length_cons, List.length_nil, Nat.reduceLT, Nat.reduceAdd, Nat.reduceEqDiff, Nat.reduceLeDiff, Int32.reduceLT, Int32.reduceLE, reduceIte, true_and, and_true, true_or, or_true, not_true_eq_false, not_false_eq_true, false_imp_iff, true_imp_iff, implies_true]
              exact none_
            · have EP : (nI i ≤ 0) = False := eq_false (Int32.not_le.mpr (nI_lt (a := 0) (by omega) (by omega)))
              cases hr : rtU kd need us n
              · have ⟨r1, r2⟩ := rtU_f hlog hr
                have F1 : fn n = 0 := fnn.2 (fun (z : need n = true) => by rw [r1] at z; cases z)
                have F2 : (nI (us n) ≤ 1) = True := eq_true (nI_le (b := 1) (by omega) (by decide))
                have none_ := hN (by rw [if_pos (.inr (.inl (by omega)))]) w1 op lp h27 h26 hk
                refine cx_run 200 mCo_lay_mo ?_
                simp (decide := true) only [KD, EP, F1, F2, gun, BmCo_lay, BSC, List.length_cons, k20, k13, k14, k1, k2, k21, k22, h26, h27, E7, eL, m1, vc, vS, vN, hpa, hopn, eD, nI_clamp (n := c) (by omega), nI_clamp (n := s.length) (by omega), nI_clamp (n := n) (by omega), nI_1, EV, EW, CT, ev_o, ev_is, ev_gd, List.length_cons, List.length_nil, Nat.reduceLT, Nat.reduceAdd, Nat.reduceEqDiff, Nat.reduceLeDiff, Int32.reduceLT, Int32.reduceLE, reduceIte, true_and, and_true, true_or, or_true, not_true_eq_false, not_false_eq_true, false_imp_iff, true_imp_iff, implies_true]
                exact none_
              · rcases (rtU_t hr).2 with r1 | ⟨r1, r2⟩
                · have F1 : fn n = 1 := fnn.1 r1
                  have none_ := hN (by rw [if_pos (.inr (.inr ⟨decide_eq_false p0, hr⟩))]) w1 op lp h27 h26 hk
                  refine cx_run 200 mCo_lay_mo ?_
                  simp (decide := true) only [KD, EP, F1, BmCo_lay, BSC, List.length_cons, k20, k13, k14, k1, k2, k21, k22, h26, h27, E7, eL, m1, vc, vS, vN, hpa, hopn, eD, nI_clamp (n := c) (by omega), nI_clamp (n := s.length) (by omega), nI_clamp (n := n) (by omega), nI_1, EV, EW, CT, ev_o, ev_is, ev_gd, List.length_cons, List.length_nil, Nat.reduceLT, Nat.reduceAdd, Nat.reduceEqDiff, Nat.reduceLeDiff, Int32.reduceLT, Int32.reduceLE, reduceIte, true_and, and_true, true_or, or_true, not_true_eq_false, not_false_eq_true, false_imp_iff, true_imp_iff, implies_true]
                  exact none_
                · have F1 : fn n = 0 := fnn.2 (fun (z : need n = true) => by rw [r1] at z; cases z)
                  have F2 : (nI (us n) ≤ 1) = False := eq_false (Int32.not_le.mpr (nI_lt (a := 1) r2 (by omega)))
                  have none_ := hN (by rw [if_pos (.inr (.inr ⟨decide_eq_false p0, hr⟩))]) w1 op lp h27 h26 hk
                  refine cx_run 200 mCo_lay_mo ?_
                  simp (decide := true) only [KD, EP, F1, F2, gun, BmCo_lay, BSC, List.length_cons, k20, k13, k14, k1, k2, k21, k22, h26, h27, E7, eL, m1, vc, vS, vN, hpa, hopn, eD, nI_clamp (n := c) (by omega), nI_clamp (n := s.length) (by omega), nI_clamp (n := n) (by omega), nI_1, EV, EW, CT, ev_o, ev_is, ev_gd, List.length_cons, List.length_nil, Nat.reduceLT, Nat.reduceAdd, Nat.reduceEqDiff, Nat.reduceLeDiff, Int32.reduceLT, Int32.reduceLE, reduceIte, true_and, and_true, true_or, or_true, not_true_eq_false, not_false_eq_true, false_imp_iff, true_imp_iff, implies_true]
                  exact none_
        · have a3 : d % 4 = 3 := by omega
          rw [dg, a3] at eD
          rw [if_pos a3] at hbit
          rw [a3, show s.length + 1 + 3 - 2 = s.length + 2 by omega] at hpt
          obtain ⟨bt, hbt⟩ : ∃ bt, bit = bt + 1 := ⟨bit - 1, by omega⟩
          subst hbt
          have m2 : nI (bt + 1) + -1 = nI bt := pk_m1 _
          have eB := bitN (a := sw) (k := bt) (by omega) (by omega)
          rcases (show kd n = 0 ∨ kd n = 1 ∨ kd n = 2 ∨ kd n = 3 by omega) with kk | kk | kk | kk
          · have KD : G.2.1 n = 0 := by rw [e1, kk]; rfl
            by_cases p0 : i = 0
            · have EP : (nI i ≤ 0) = True := eq_true (by rw [p0]; decide)
              have none_ := hN (by rw [if_pos (.inr (.inl (by omega)))]) w1 op lp h27 h26 hk
              refine cx_run 200 mCo_lay_mo ?_
              simp (decide := true) only [KD, EP, BmCo_lay, BSC, List.length_cons, k20, k13, k14, k1, k2, k21, k22, h26, h27, E7, eL, m1, vc, vS, vN, hpa, hopn, eD, nI_clamp (n := c) (by omega), nI_clamp (n := s.length) (by omega), nI_clamp (n := n) (by omega), nI_1, EV, EW, CT, ev_o, ev_is, ev_gd, List.length_cons, List.length_nil, Nat.reduceLT, Nat.reduceAdd, Nat.reduceEqDiff, Nat.reduceLeDiff, Int32.reduceLT, Int32.reduceLE, reduceIte, true_and, and_true, true_or, or_true, not_true_eq_false, not_false_eq_true, false_imp_iff, true_imp_iff, implies_true]
              exact none_
            · have EP : (nI i ≤ 0) = False := eq_false (Int32.not_le.mpr (nI_lt (a := 0) (by omega) (by omega)))
              have none_ := hN (by rw [if_pos (.inr (.inl (by omega)))]) w1 op lp h27 h26 hk
              refine cx_run 200 mCo_lay_mo ?_
              simp (decide := true) only [KD, EP, BmCo_lay, BSC, List.length_cons, k20, k13, k14, k1, k2, k21, k22, h26, h27, E7, eL, m1, vc, vS, vN, hpa, hopn, eD, nI_clamp (n := c) (by omega), nI_clamp (n := s.length) (by omega), nI_clamp (n := n) (by omega), nI_1, EV, EW, CT, ev_o, ev_is, ev_gd, List.length_cons, List.length_nil, Nat.reduceLT, Nat.reduceAdd, Nat.reduceEqDiff, Nat.reduceLeDiff, Int32.reduceLT, Int32.reduceLE, reduceIte, true_and, and_true, true_or, or_true, not_true_eq_false, not_false_eq_true, false_imp_iff, true_imp_iff, implies_true]
              exact none_
          · have KD : G.2.1 n = 1 := by rw [e1, kk]; rfl
            by_cases p0 : i = 0
            · have EP : (nI i ≤ 0) = True := eq_true (by rw [p0]; decide)
              have none_ := hN (by rw [if_pos (.inr (.inl (by omega)))]) w1 op lp h27 h26 hk
              refine cx_run 200 mCo_lay_mo ?_
              simp (decide := true) only [KD, EP, BmCo_lay, BSC, List.length_cons, k20, k13, k14, k1, k2, k21, k22, h26, h27, E7, eL, m1, vc, vS, vN, hpa, hopn, eD, nI_clamp (n := c) (by omega), nI_clamp (n := s.length) (by omega), nI_clamp (n := n) (by omega), nI_1, EV, EW, CT, ev_o, ev_is, ev_gd, List.length_cons, List.length_nil, Nat.reduceLT, Nat.reduceAdd, Nat.reduceEqDiff, Nat.reduceLeDiff, Int32.reduceLT, Int32.reduceLE, reduceIte, true_and, and_true, true_or, or_true, not_true_eq_false, not_false_eq_true, false_imp_iff, true_imp_iff, implies_true]
              exact none_
            · have EP : (nI i ≤ 0) = False := eq_false (Int32.not_le.mpr (nI_lt (a := 0) (by omega) (by omega)))
              have none_ := hN (by rw [if_pos (.inr (.inl (by omega)))]) w1 op lp h27 h26 hk
              refine cx_run 200 mCo_lay_mo ?_
              simp (decide := true) only [KD, EP, BmCo_lay, BSC, List.length_cons, k20, k13, k14, k1, k2, k21, k22, h26, h27, E7, eL, m1, vc, vS, vN, hpa, hopn, eD, nI_clamp (n := c) (by omega), nI_clamp (n := s.length) (by omega), nI_clamp (n := n) (by omega), nI_1, EV, EW, CT, ev_o, ev_is, ev_gd, List.length_cons, List.length_nil, Nat.reduceLT, Nat.reduceAdd, Nat.reduceEqDiff, Nat.reduceLeDiff, Int32.reduceLT, Int32.reduceLE, reduceIte, true_and, and_true, true_or, or_true, not_true_eq_false, not_false_eq_true, false_imp_iff, true_imp_iff, implies_true]
              exact none_
          · have KD : G.2.1 n = 2 := by rw [e1, kk]; rfl
            have hlog : kd n = 2 ∨ kd n = 3 := by omega
            by_cases p0 : i = 0
            · have EP : (nI i ≤ 0) = True := eq_true (by rw [p0]; decide)
              have none_ := hN (by rw [if_pos (.inr (.inl (by omega)))]) w1 op lp h27 h26 hk
              refine cx_run 200 mCo_lay_mo ?_
              simp (decide := true) only [KD, EP, BmCo_lay, BSC, List.length_cons, k20, k13, k14, k1, k2, k21, k22, h26, h27, E7, eL, m1, vc, vS, vN, hpa, hopn, eD, nI_clamp (n := c) (by omega), nI_clamp (n := s.length) (by omega), nI_clamp (n := n) (by omega), nI_1, EV, EW, CT, ev_o, ev_is, ev_gd, List.length_cons, List.length_nil, Nat.reduceLT, Nat.reduceAdd, Nat.reduceEqDiff, Nat.reduceLeDiff, Int32.reduceLT, Int32.reduceLE, reduceIte, true_and, and_true, true_or, or_true, not_true_eq_false, not_false_eq_true, false_imp_iff, true_imp_iff, implies_true]
              exact none_
            · have EP : (nI i ≤ 0) = False := eq_false (Int32.not_le.mpr (nI_lt (a := 0) (by omega) (by omega)))
              cases hr : rtU kd need us n
              · have ⟨r1, r2⟩ := rtU_f hlog hr
                have F1 : fn n = 0 := fnn.2 (fun (z : need n = true) => by rw [r1] at z; cases z)
                have F2 : (nI (us n) ≤ 1) = True := eq_true (nI_le (b := 1) (by omega) (by decide))
                have none_ := hN (by rw [if_pos (.inr (.inl (by omega)))]) w1 op lp h27 h26 hk
                refine cx_run 200 mCo_lay_mo ?_
                simp (decide := true) only [KD, EP, F1, F2, gun, BmCo_lay, BSC, List.length_cons, k20, k13, k14, k1, k2, k21, k22, h26, h27, E7, eL, m1, vc, vS, vN, hpa, hopn, eD, nI_clamp (n := c) (by omega), nI_clamp (n := s.length) (by omega), nI_clamp (n := n) (by omega), nI_1, EV, EW, CT, ev_o, ev_is, ev_gd, List.length_cons, List.length_nil, Nat.reduceLT, Nat.reduceAdd, Nat.reduceEqDiff, Nat.reduceLeDiff, Int32.reduceLT, Int32.reduceLE, reduceIte, true_and, and_true, true_or, or_true, not_true_eq_false, not_false_eq_true, false_imp_iff, true_imp_iff, implies_true]
                exact none_
              · rcases (rtU_t hr).2 with r1 | ⟨r1, r2⟩
                · have F1 : fn n = 1 := fnn.1 r1
                  have none_ := hN (by rw [if_pos (.inr (.inr ⟨decide_eq_false p0, hr⟩))]) w1 op lp h27 h26 hk
                  refine cx_run 200 mCo_lay_mo ?_
                  simp (decide := true) only [KD, EP, F1, BmCo_lay, BSC, List.length_cons, k20, k13, k14, k1, k2, k21, k22, h26, h27, E7, eL, m1, vc, vS, vN, hpa, hopn, eD, nI_clamp (n := c) (by omega), nI_clamp (n := s.length) (by omega), nI_clamp (n := n) (by omega), nI_1, EV, EW, CT, ev_o, ev_is, ev_gd, List.length_cons, List.length_nil, Nat.reduceLT, Nat.reduceAdd, Nat.reduceEqDiff, Nat.reduceLeDiff, Int32.reduceLT, Int32.reduceLE, reduceIte, true_and, and_true, true_or, or_true, not_true_eq_false, not_false_eq_true, false_imp_iff, true_imp_iff, implies_true]
                  exact none_
                · have F1 : fn n = 0 := fnn.2 (fun (z : need n = true) => by rw [r1] at z; cases z)
                  have F2 : (nI (us n) ≤ 1) = False := eq_false (Int32.not_le.mpr (nI_lt (a := 1) r2 (by omega)))
                  have none_ := hN (by rw [if_pos (.inr (.inr ⟨decide_eq_false p0, hr⟩))]) w1 op lp h27 h26 hk
                  refine cx_run 200 mCo_lay_mo ?_
                  simp (decide := true) only [KD, EP, F1, F2, gun, BmCo_lay, BSC, List.length_cons, k20, k13, k14, k1, k2, k21, k22, h26, h27, E7, eL, m1, vc, vS, vN, hpa, hopn, eD, nI_clamp (n := c) (by omega), nI_clamp (n := s.length) (by omega), nI_clamp (n := n) (by omega), nI_1, EV, EW, CT, ev_o, ev_is, ev_gd, List.length_cons, List.length_nil, Nat.reduceLT, Nat.reduceAdd, Nat.reduceEqDiff, Nat.reduceLeDiff, Int32.reduceLT, Int32.reduceLE, reduceIte, true_and, and_true, true_or, or_true, not_true_eq_false, not_false_eq_true, false_imp_iff, true_imp_iff, implies_true]
                  exact none_
          · have KD : G.2.1 n = 3 := by rw [e1, kk]; rfl
            have hlog : kd n = 2 ∨ kd n = 3 := by omega
            have ⟨x1, x2⟩ := e3 hlog
            have ⟨y1, y2, y3⟩ := e4 kk
            by_cases p0 : i = 0
            · have EP : (nI i ≤ 0) = True := eq_true (by rw [p0]; decide)
              rw [if_neg (fun z => z.elim (fun z => by omega) fun z => z.elim (fun z => by omega) fun z => absurd p0 (of_decide_eq_false z.1)), if_neg a2, Nat.add_sub_cancel] at hS hN
              cases sb : sw.testBit bt
              · have SB : sw / 2 ^ bt % 2 = 0 := by have h := tb_bool (a := sw) (k := bt); rw [sb] at h; exact h.symm
                rw [SB] at eB
                rw [sb] at hS hN
                have nx := ih (i + 1) (d / 4) (px n :: py n :: s) ps bt (cx_up (cx_up w1 27 (ai 8 (upd op s.length (nI (py n))))) 27 (ai 8 (upd (upd op s.length (nI (py n))) (s.length + 1) (nI (px n))))) (upd (upd op s.length (nI (py n))) (s.length + 1) (nI (px n))) lp (some (.int (nI 3))) (some (.int (nI n))) (some (.int 0)) (by omega) dd4 hpt (fun x hx => (List.mem_cons.mp hx).elim (fun e => by omega) fun e => (List.mem_cons.mp e).elim (fun e => by omega) (hss x)) (hop.2.push (n := py n)).push hlp (by omega) (by omega) (by omega) (by simp only [List.length_cons]; omega)
                  (by simp only [cx_up, Nat.reduceEqDiff, reduceIte]) (by simp only [cx_up, Nat.reduceEqDiff, reduceIte]; exact h26) (fun k z => by rw [← hk k z]; simp (disch := omega) only [cx_up, if_neg]) hS hN
                have vS1 : vp_in (nI (s.length + 1)) 8 := nI_in (by omega) (by decide)
                refine cx_run 200 mCo_lay_mo ?_
                simp (decide := true) only [KD, EP, x1, y1, k3, k4, m2, eB, vS1, nI_clamp (n := s.length + 1) (by omega), BmCo_lay, BSC, List.length_cons, k20, k13, k14, k1, k2, k21, k22, h26, h27, E7, eL, m1, vc, vS, vN, hpa, hopn, eD, nI_clamp (n := c) (by omega), nI_clamp (n := s.length) (by omega), nI_clamp (n := n) (by omega), nI_1, EV, EW, CT, ev_o, ev_is, ev_gd, List.length_cons, List.length_nil, Nat.reduceLT, Nat.reduceAdd, Nat.reduceEqDiff, Nat.reduceLeDiff, Int32.reduceLT, Int32.reduceLE, reduceIte, true_and, and_true, true_or, or_true, not_true_eq_false, not_false_eq_true, false_imp_iff, true_imp_iff, implies_true]
                exact nx
              · have SB : sw / 2 ^ bt % 2 = 1 := by have h := tb_bool (a := sw) (k := bt); rw [sb] at h; exact h.symm
                rw [SB] at eB
                rw [sb] at hS hN
                have nx := ih (i + 1) (d / 4) (py n :: px n :: s) ps bt (cx_up (cx_up w1 27 (ai 8 (upd op s.length (nI (px n))))) 27 (ai 8 (upd (upd op s.length (nI (px n))) (s.length + 1) (nI (py n))))) (upd (upd op s.length (nI (px n))) (s.length + 1) (nI (py n))) lp (some (.int (nI 3))) (some (.int (nI n))) (some (.int 1)) (by omega) dd4 hpt (fun x hx => (List.mem_cons.mp hx).elim (fun e => by omega) fun e => (List.mem_cons.mp e).elim (fun e => by omega) (hss x)) (hop.2.push (n := px n)).push hlp (by omega) (by omega) (by omega) (by simp only [List.length_cons]; omega)
                  (by simp only [cx_up, Nat.reduceEqDiff, reduceIte]) (by simp only [cx_up, Nat.reduceEqDiff, reduceIte]; exact h26) (fun k z => by rw [← hk k z]; simp (disch := omega) only [cx_up, if_neg]) hS hN
                have vS1 : vp_in (nI (s.length + 1)) 8 := nI_in (by omega) (by decide)
                refine cx_run 200 mCo_lay_mo ?_
                simp (decide := true) only [KD, EP, x1, y1, k3, k4, m2, eB, vS1, nI_clamp (n := s.length + 1) (by omega), BmCo_lay, BSC, List.length_cons, k20, k13, k14, k1, k2, k21, k22, h26, h27, E7, eL, m1, vc, vS, vN, hpa, hopn, eD, nI_clamp (n := c) (by omega), nI_clamp (n := s.length) (by omega), nI_clamp (n := n) (by omega), nI_1, EV, EW, CT, ev_o, ev_is, ev_gd, List.length_cons, List.length_nil, Nat.reduceLT, Nat.reduceAdd, Nat.reduceEqDiff, Nat.reduceLeDiff, Int32.reduceLT, Int32.reduceLE, reduceIte, true_and, and_true, true_or, or_true, not_true_eq_false, not_false_eq_true, false_imp_iff, true_imp_iff, implies_true]
                exact nx
            · have EP : (nI i ≤ 0) = False := eq_false (Int32.not_le.mpr (nI_lt (a := 0) (by omega) (by omega)))
              cases hr : rtU kd need us n
              · have ⟨r1, r2⟩ := rtU_f hlog hr
                have F1 : fn n = 0 := fnn.2 (fun (z : need n = true) => by rw [r1] at z; cases z)
                have F2 : (nI (us n) ≤ 1) = True := eq_true (nI_le (b := 1) (by omega) (by decide))
                rw [if_neg (fun z => z.elim (fun z => by omega) fun z => z.elim (fun z => by omega) fun z => by have y := z.2; rw [hr] at y; cases y), if_neg a2, Nat.add_sub_cancel] at hS hN
                cases sb : sw.testBit bt
                · have SB : sw / 2 ^ bt % 2 = 0 := by have h := tb_bool (a := sw) (k := bt); rw [sb] at h; exact h.symm
                  rw [SB] at eB
                  rw [sb] at hS hN
                  have nx := ih (i + 1) (d / 4) (px n :: py n :: s) ps bt (cx_up (cx_up w1 27 (ai 8 (upd op s.length (nI (py n))))) 27 (ai 8 (upd (upd op s.length (nI (py n))) (s.length + 1) (nI (px n))))) (upd (upd op s.length (nI (py n))) (s.length + 1) (nI (px n))) lp (some (.int (nI 3))) (some (.int (nI n))) (some (.int 0)) (by omega) dd4 hpt (fun x hx => (List.mem_cons.mp hx).elim (fun e => by omega) fun e => (List.mem_cons.mp e).elim (fun e => by omega) (hss x)) (hop.2.push (n := py n)).push hlp (by omega) (by omega) (by omega) (by simp only [List.length_cons]; omega)
                    (by simp only [cx_up, Nat.reduceEqDiff, reduceIte]) (by simp only [cx_up, Nat.reduceEqDiff, reduceIte]; exact h26) (fun k z => by rw [← hk k z]; simp (disch := omega) only [cx_up, if_neg]) hS hN
                  have vS1 : vp_in (nI (s.length + 1)) 8 := nI_in (by omega) (by decide)
                  refine cx_run 200 mCo_lay_mo ?_
                  simp (decide := true) only [KD, EP, F1, F2, gun, x1, y1, k3, k4, m2, eB, vS1, nI_clamp (n := s.length + 1) (by omega), BmCo_lay, BSC, List.length_cons, k20, k13, k14, k1, k2, k21, k22, h26, h27, E7, eL, m1, vc, vS, vN, hpa, hopn, eD, nI_clamp (n := c) (by omega), nI_clamp (n := s.length) (by omega), nI_clamp (n := n) (by omega), nI_1, EV, EW, CT, ev_o, ev_is, ev_gd, List.length_cons, List.length_nil, Nat.reduceLT, Nat.reduceAdd, Nat.reduceEqDiff, Nat.reduceLeDiff, Int32.reduceLT, Int32.reduceLE, reduceIte, true_and, and_true, true_or, or_true, not_true_eq_false, not_false_eq_true, false_imp_iff, true_imp_iff, implies_true]
                  exact nx
                · have SB : sw / 2 ^ bt % 2 = 1 := by have h := tb_bool (a := sw) (k := bt); rw [sb] at h; exact h.symm
                  rw [SB] at eB
                  rw [sb] at hS hN
                  have nx := ih (i + 1) (d / 4) (py n :: px n :: s) ps bt (cx_up (cx_up w1 27 (ai 8 (upd op s.length (nI (px n))))) 27 (ai 8 (upd (upd op s.length (nI (px n))) (s.length + 1) (nI (py n))))) (upd (upd op s.length (nI (px n))) (s.length + 1) (nI (py n))) lp (some (.int (nI 3))) (some (.int (nI n))) (some (.int 1)) (by omega) dd4 hpt (fun x hx => (List.mem_cons.mp hx).elim (fun e => by omega) fun e => (List.mem_cons.mp e).elim (fun e => by omega) (hss x)) (hop.2.push (n := px n)).push hlp (by omega) (by omega) (by omega) (by simp only [List.length_cons]; omega)
                    (by simp only [cx_up, Nat.reduceEqDiff, reduceIte]) (by simp only [cx_up, Nat.reduceEqDiff, reduceIte]; exact h26) (fun k z => by rw [← hk k z]; simp (disch := omega) only [cx_up, if_neg]) hS hN
                  have vS1 : vp_in (nI (s.length + 1)) 8 := nI_in (by omega) (by decide)
                  refine cx_run 200 mCo_lay_mo ?_
                  simp (decide := true) only [KD, EP, F1, F2, gun, x1, y1, k3, k4, m2, eB, vS1, nI_clamp (n := s.length + 1) (by omega), BmCo_lay, BSC, List.length_cons, k20, k13, k14, k1, k2, k21, k22, h26, h27, E7, eL, m1, vc, vS, vN, hpa, hopn, eD, nI_clamp (n := c) (by omega), nI_clamp (n := s.length) (by omega), nI_clamp (n := n) (by omega), nI_1, EV, EW, CT, ev_o, ev_is, ev_gd, List.length_cons, List.length_nil, Nat.reduceLT, Nat.reduceAdd, Nat.reduceEqDiff, Nat.reduceLeDiff, Int32.reduceLT, Int32.reduceLE, reduceIte, true_and, and_true, true_or, or_true, not_true_eq_false, not_false_eq_true, false_imp_iff, true_imp_iff, implies_true]
                  exact nx
              · rcases (rtU_t hr).2 with r1 | ⟨r1, r2⟩
                · have F1 : fn n = 1 := fnn.1 r1
                  have none_ := hN (by rw [if_pos (.inr (.inr ⟨decide_eq_false p0, hr⟩))]) w1 op lp h27 h26 hk
                  refine cx_run 200 mCo_lay_mo ?_
                  simp (decide := true) only [KD, EP, F1, BmCo_lay, BSC, List.length_cons, k20, k13, k14, k1, k2, k21, k22, h26, h27, E7, eL, m1, vc, vS, vN, hpa, hopn, eD, nI_clamp (n := c) (by omega), nI_clamp (n := s.length) (by omega), nI_clamp (n := n) (by omega), nI_1, EV, EW, CT, ev_o, ev_is, ev_gd, List.length_cons, List.length_nil, Nat.reduceLT, Nat.reduceAdd, Nat.reduceEqDiff, Nat.reduceLeDiff, Int32.reduceLT, Int32.reduceLE, reduceIte, true_and, and_true, true_or, or_true, not_true_eq_false, not_false_eq_true, false_imp_iff, true_imp_iff, implies_true]
                  exact none_
                · have F1 : fn n = 0 := fnn.2 (fun (z : need n = true) => by rw [r1] at z; cases z)
                  have F2 : (nI (us n) ≤ 1) = False := eq_false (Int32.not_le.mpr (nI_lt (a := 1) r2 (by omega)))
                  have none_ := hN (by rw [if_pos (.inr (.inr ⟨decide_eq_false p0, hr⟩))]) w1 op lp h27 h26 hk
                  refine cx_run 200 mCo_lay_mo ?_
                  simp (decide := true) only [KD, EP, F1, F2, gun, BmCo_lay, BSC, List.length_cons, k20, k13, k14, k1, k2, k21, k22, h26, h27, E7, eL, m1, vc, vS, vN, hpa, hopn, eD, nI_clamp (n := c) (by omega), nI_clamp (n := s.length) (by omega), nI_clamp (n := n) (by omega), nI_1, EV, EW, CT, ev_o, ev_is, ev_gd, List.length_cons, List.length_nil, Nat.reduceLT, Nat.reduceAdd, Nat.reduceEqDiff, Nat.reduceLeDiff, Int32.reduceLT, Int32.reduceLE, reduceIte, true_and, and_true, true_or, or_true, not_true_eq_false, not_false_eq_true, false_imp_iff, true_imp_iff, implies_true]
                  exact none_

