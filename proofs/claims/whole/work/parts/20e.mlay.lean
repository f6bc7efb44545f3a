/-! Laying a cell on a node: the reference. Printed by gen_20e.py. -/
/-- what the reference's laying reads -/
def MlW (w : cx_W) (H : Gr) (kd px py : Nat → Nat) (rt : Nat → Bool) (rr pa : Nat → Int32) : Prop :=
  w 56 = ai 48 H.2.1 ∧ w 57 = ai 48 H.2.2.1 ∧ w 58 = ai 48 H.2.2.2 ∧ H.1 ≤ 48 ∧ GKM H kd px py ∧ w 61 = ai 8 pa ∧ w 65 = az 48 rr ∧ BR 48 rr (fun j => j < H.1 ∧ rt j = true)
theorem pt_pos {f d o : Nat} (h : pt f d o = true) : 1 ≤ f := by
  match f, h with
  | 0, h => cases h
  | f + 1, _ => omega
set_option maxHeartbeats 16000000 in
theorem mlay_loop {w : cx_W} {H : Gr} {kd px py : Nat → Nat} {rt : Nat → Bool} {cost : Nat → Nat} {rr pa cs : Nat → Int32} {c sw q A : Nat} {tp x0 x1 x2 x3 x4 x5 x6 x8 x9 : Int32} {Q : cx_Q} {dd : Nat} {Lv : Nat → Prop} (hW : MlW w H kd px py rt rr pa) (h67 : w 67 = ai 48 cs) (hc : c < 8) (hpa : pa c = nI q) (hq : q < 16384) (hsw : sw < 8) (hcs : ∀ x, x < H.1 → Lv x → nr kd rt x → x < tp.toNatClampNeg → cs x = nI (cost x)) (hl : ∀ k, k < H.1 → Lv k → (kd k = 2 → Lv (px k)) ∧ (kd k = 3 → Lv (px k) ∧ Lv (py k))) (hwf : wf kd px py H.1) (htp : tp.toNatClampNeg < H.1) :
    ∀ (f d : Nat) (fst : Bool) (stk ps : List Nat) (bit : Nat) (w1 : cx_W) (op lp : Nat → Int32) (l8 l9 : Option Value), d < 2 ^ 31 → (fst = true → d = q) → (fst = false → ¬ d = q) → (fst = true → stk = [tp.toNatClampNeg] ∧ ¬ d % 4 = 1) → (fst = false → ∀ x, x ∈ stk → x < tp.toNatClampNeg) → d ≤ q → (∀ x, x ∈ stk → Lv x) → pt f d stk.length = true → stk.length + f ≤ 9 → Stk op stk → Stk lp ps → ps.length + cdr 1 f d ≤ 4 → cdr 3 f d ≤ bit → bit ≤ 3 →
    w1 71 = ai 8 op → w1 72 = ai 4 lp → w1 45 = oM x0 x1 x2 x3 x4 x5 x6 (nI ps.length) x8 x9 → (∀ k, ¬ k = 45 ∧ ¬ k = 71 ∧ ¬ k = 72 → w1 k = w k) →
    (∀ pins, layN kd px py rt sw f d fst stk ps bit = some pins → ∀ (w2 : cx_W) (op2 lp2 : Nat → Int32), w2 71 = ai 8 op2 → w2 72 = ai 4 lp2 → w2 45 = oM x0 x1 x2 x3 x4 x5 x6 (nI pins.length) x8 x9 → (∀ k, ¬ k = 45 ∧ ¬ k = 71 ∧ ¬ k = 72 → w2 k = w k) → Stk lp2 pins → Q (some (.int (nI (A + sumL (pc kd rt cost) pins)))) w2 (87, 0, 0)) →
    (layN kd px py rt sw f d fst stk ps bit = none → ∀ (w2 : cx_W) (op2 lp2 : Nat → Int32) (x7 : Int32), w2 71 = ai 8 op2 → w2 72 = ai 4 lp2 → w2 45 = oM x0 x1 x2 x3 x4 x5 x6 x7 x8 x9 → (∀ k, ¬ k = 45 ∧ ¬ k = 71 ∧ ¬ k = 72 → w2 k = w k) → Q (some (.int (-1))) w2 (87, 0, 0)) →
    cx_OK none mM_lay (dd + 2) 0 0 Q 40 [some (.ref 45), some (.int tp), some (.int (nI c)), some (.int (nI sw)), some (.int (nI (A + sumL (pc kd rt cost) ps))), some (.int (nI bit - 1)), some (.int (nI stk.length)), some (.int (nI d)), l8, l9] [] w1 (87, 0, 0) := by
  obtain ⟨h56, h57, h58, hn, hK, h61, h65, hrr⟩ := hW
  have vc : vp_in (nI c) 8 := nI_in hc (by decide)
  intro f
  induction f with
  | zero => intro d fst stk ps bit w1 op lp l8 l9 _ _ _ _ _ _ _ h; exact absurd h (by simp [pt])
  | succ f ih =>
    intro d fst stk ps bit w1 op lp l8 l9 h31 hf1 hf2 hf3 hf4 hdq hlv hpt hdep hop hlp hps hbit hb3 h71 h72 h45 hk hS hN
    have k56 := (hk 56 (by decide)).trans h56
    have k57 := (hk 57 (by decide)).trans h57
    have k58 := (hk 58 (by decide)).trans h58
    have k61 := (hk 61 (by decide)).trans h61
    have k65 := (hk 65 (by decide)).trans h65
    have k67 := (hk 67 (by decide)).trans h67
    match stk, hlv, hpt, hop, hdep, hf3, hf4, hS, hN with
    | [], hlv, hpt, hop, hdep, hf3, hf4, hS, hN =>
      have d0 : d = 0 := by
        by_cases e : d = 0
        · exact e
        · rw [List.length_nil, pt_s e, if_pos (.inr rfl)] at hpt; cases hpt
      have fin := hS ps (by rw [lay_n, if_pos d0]) w1 op lp h71 h72 h45 hk hlp
      have E := (z0 h31).trans (eq_true d0)
      refine cx_run 200 mM_lay_mo ?_
      simp (decide := true) only [BmM_lay, E, EV, EW, CT, ev_o, ev_is, ev_gd, List.length_cons, List.length_nil, Nat.reduceLT, Nat.reduceAdd, Nat.reduceEqDiff, Nat.reduceLeDiff, Int32.reduceLT, Int32.reduceLE, reduceIte, true_and, and_true, true_or, or_true, not_true_eq_false, not_false_eq_true, false_imp_iff, true_imp_iff, implies_true]
      exact fin
    | n :: s, hlv, hpt, hop, hdep, hf3, hf4, hS, hN =>
      have d0 : ¬ d = 0 := by
        intro e
        rw [e, List.length_cons, pt_d] at hpt
        simp at hpt
      rw [List.length_cons, pt_s d0] at hpt
      have dz : ¬ (d % 4 = 0 ∨ s.length + 1 = 0) := fun z => by rw [if_pos z] at hpt; cases hpt
      rw [if_neg dz] at hpt
      have hf := pt_pos hpt
      have E0 := (z0 h31).trans (eq_false d0)
      rw [List.length_cons] at hdep
      have m1 : nI (s.length + 1) + -1 = nI s.length := pk_m1 _
      have vS : vp_in (nI s.length) 8 := nI_in (by omega) (by decide)
      have hopn := hop.1
      have hnt : n ≤ tp.toNatClampNeg := by
        cases e : fst
        · exact Nat.le_of_lt (hf4 e n (List.mem_cons_self ..))
        · have := (hf3 e).1
          injection this with this
          omega
      have hss : ∀ x, x ∈ s → x < tp.toNatClampNeg := fun x hx => by
        cases e : fst
        · exact hf4 e x (List.mem_cons_of_mem _ hx)
        · have := (hf3 e).1
          injection this with _ this
          rw [this] at hx; exact absurd hx (by simp)
      have hnG : n < H.1 := by omega
      have hln := hlv n (List.mem_cons_self ..)
      have hlc := hl n hnG hln
      have vN : vp_in (nI n) 48 := nI_in (by omega) (by decide)
      have ⟨e1, e2, e3, e4⟩ := hK n hnG
      have hdl : d / 4 < d := Nat.div_lt_self (by omega) (by decide)
      have rrn := hrr n (by omega)
      rw [cdr, if_neg d0] at hps hbit
      rw [lay_s, if_neg d0] at hS hN
      have sd := sr2 h31
      by_cases a1 : d % 4 = 1
      · have hft : fst = false := by
          cases e : fst
          · rfl
          · exact absurd a1 (hf3 e).2
        have hn2 : n < tp.toNatClampNeg := hf4 hft n (List.mem_cons_self ..)
        rw [if_pos a1] at hps hS hN
        rw [if_neg (by omega)] at hbit
        have eD : nI d &&& 3 = nI 1 := by rw [an3, a1]
        rw [a1, show s.length + 1 + 1 - 2 = s.length by omega] at hpt
        have vP : vp_in (nI ps.length) 4 := nI_in (by omega) (by decide)
        have nx : ∀ l8, cx_OK none mM_lay (dd + 2) 0 0 Q 40 [some (.ref 45), some (.int tp), some (.int (nI c)), some (.int (nI sw)), some (.int (nI (A + (pc kd rt cost n + sumL (pc kd rt cost) ps)))), some (.int (nI bit - 1)), some (.int (nI s.length)), some (.int (nI (d / 4))), l8, l9] [] (cx_up (cx_up w1 72 (ai 4 (upd lp ps.length (nI n)))) 45 (oM x0 x1 x2 x3 x4 x5 x6 (nI (ps.length + 1)) x8 x9)) (87, 0, 0) := fun l8 =>
          ih (d / 4) false s (n :: ps) bit _ op (upd lp ps.length (nI n)) l8 l9 (by omega) (fun z => by cases z) (fun _ => by omega) (fun z => by cases z) (fun _ => hss) (by omega) (fun x hx => hlv x (List.mem_cons_of_mem _ hx)) hpt (by omega) hop.2 hlp.push (by simp only [List.length_cons]; omega) (by omega) hb3
            (by simp only [cx_up, Nat.reduceEqDiff, reduceIte]; exact h71) (by simp only [cx_up, Nat.reduceEqDiff, reduceIte]) (by simp only [cx_up, Nat.reduceEqDiff, reduceIte]; rfl) (fun k z => by rw [← hk k z]; simp (disch := omega) only [cx_up, if_neg]) hS hN
        refine cx_run 200 mM_lay_mo ?_
        rcases (show kd n = 0 ∨ kd n = 1 ∨ kd n = 2 ∨ kd n = 3 by omega) with kk | kk | kk | kk
        · have KD : H.2.1 n = 0 := by rw [e1, kk]; rfl
          rw [show pc kd rt cost n = 0 from if_neg (fun z => by have := z.1; omega), Nat.zero_add] at nx
          simp (decide := true) only [KD, vP, nI_clamp (n := ps.length) (by omega), BmM_lay, BSM, List.length_cons, h45, k56, k61, k65, h71, h72, E0, m1, vc, vS, vN, hpa, hopn, eD, sd, nI_clamp (n := c) (by omega), nI_clamp (n := s.length) (by omega), nI_clamp (n := n) (by omega), nI_1, EV, EW, CT, ev_o, ev_is, ev_gd, List.length_cons, List.length_nil, Nat.reduceLT, Nat.reduceAdd, Nat.reduceEqDiff, Nat.reduceLeDiff, Int32.reduceLT, Int32.reduceLE, reduceIte, true_and, and_true, true_or, or_true, not_true_eq_false, not_false_eq_true, false_imp_iff, true_imp_iff, implies_true]
          exact nx _
        · have KD : H.2.1 n = 1 := by rw [e1, kk]; rfl
          rw [show pc kd rt cost n = 0 from if_neg (fun z => by have := z.1; omega), Nat.zero_add] at nx
          simp (decide := true) only [KD, vP, nI_clamp (n := ps.length) (by omega), BmM_lay, BSM, List.length_cons, h45, k56, k61, k65, h71, h72, E0, m1, vc, vS, vN, hpa, hopn, eD, sd, nI_clamp (n := c) (by omega), nI_clamp (n := s.length) (by omega), nI_clamp (n := n) (by omega), nI_1, EV, EW, CT, ev_o, ev_is, ev_gd, List.length_cons, List.length_nil, Nat.reduceLT, Nat.reduceAdd, Nat.reduceEqDiff, Nat.reduceLeDiff, Int32.reduceLT, Int32.reduceLE, reduceIte, true_and, and_true, true_or, or_true, not_true_eq_false, not_false_eq_true, false_imp_iff, true_imp_iff, implies_true]
          exact nx _
        · have KD : H.2.1 n = 3 := by rw [e1, kk]; rfl
          cases hr : rt n
          · have F : rr n = 0 := rrn.2 fun z => by have y : rt n = true := z.2; rw [hr] at y; cases y
            have cn := hcs n hnG hln ⟨by omega, hr⟩ hn2
            rw [show pc kd rt cost n = cost n from if_pos ⟨by omega, hr⟩, Nat.add_comm (cost n), ← Nat.add_assoc] at nx
            simp (decide := true) only [KD, F, cn, k67, vP, nI_add, nI_clamp (n := ps.length) (by omega), BmM_lay, BSM, List.length_cons, h45, k56, k61, k65, h71, h72, E0, m1, vc, vS, vN, hpa, hopn, eD, sd, nI_clamp (n := c) (by omega), nI_clamp (n := s.length) (by omega), nI_clamp (n := n) (by omega), nI_1, EV, EW, CT, ev_o, ev_is, ev_gd, List.length_cons, List.length_nil, Nat.reduceLT, Nat.reduceAdd, Nat.reduceEqDiff, Nat.reduceLeDiff, Int32.reduceLT, Int32.reduceLE, reduceIte, true_and, and_true, true_or, or_true, not_true_eq_false, not_false_eq_true, false_imp_iff, true_imp_iff, implies_true]
            exact nx _
          · have F : rr n = 1 := rrn.1 ⟨hnG, hr⟩
            rw [show pc kd rt cost n = 0 from if_neg (fun z => by have y := z.2; rw [hr] at y; cases y), Nat.zero_add] at nx
            simp (decide := true) only [KD, F, vP, nI_clamp (n := ps.length) (by omega), BmM_lay, BSM, List.length_cons, h45, k56, k61, k65, h71, h72, E0, m1, vc, vS, vN, hpa, hopn, eD, sd, nI_clamp (n := c) (by omega), nI_clamp (n := s.length) (by omega), nI_clamp (n := n) (by omega), nI_1, EV, EW, CT, ev_o, ev_is, ev_gd, List.length_cons, List.length_nil, Nat.reduceLT, Nat.reduceAdd, Nat.reduceEqDiff, Nat.reduceLeDiff, Int32.reduceLT, Int32.reduceLE, reduceIte, true_and, and_true, true_or, or_true, not_true_eq_false, not_false_eq_true, false_imp_iff, true_imp_iff, implies_true]
            exact nx _
        · have KD : H.2.1 n = 2 := by rw [e1, kk]; rfl
          cases hr : rt n
          · have F : rr n = 0 := rrn.2 fun z => by have y : rt n = true := z.2; rw [hr] at y; cases y
            have cn := hcs n hnG hln ⟨by omega, hr⟩ hn2
            rw [show pc kd rt cost n = cost n from if_pos ⟨by omega, hr⟩, Nat.add_comm (cost n), ← Nat.add_assoc] at nx
            simp (decide := true) only [KD, F, cn, k67, vP, nI_add, nI_clamp (n := ps.length) (by omega), BmM_lay, BSM, List.length_cons, h45, k56, k61, k65, h71, h72, E0, m1, vc, vS, vN, hpa, hopn, eD, sd, nI_clamp (n := c) (by omega), nI_clamp (n := s.length) (by omega), nI_clamp (n := n) (by omega), nI_1, EV, EW, CT, ev_o, ev_is, ev_gd, List.length_cons, List.length_nil, Nat.reduceLT, Nat.reduceAdd, Nat.reduceEqDiff, Nat.reduceLeDiff, Int32.reduceLT, Int32.reduceLE, reduceIte, true_and, and_true, true_or, or_true, not_true_eq_false, not_false_eq_true, false_imp_iff, true_imp_iff, implies_true]
            exact nx _
          · have F : rr n = 1 := rrn.1 ⟨hnG, hr⟩
            rw [show pc kd rt cost n = 0 from if_neg (fun z => by have y := z.2; rw [hr] at y; cases y), Nat.zero_add] at nx
            simp (decide := true) only [KD, F, vP, nI_clamp (n := ps.length) (by omega), BmM_lay, BSM, List.length_cons, h45, k56, k61, k65, h71, h72, E0, m1, vc, vS, vN, hpa, hopn, eD, sd, nI_clamp (n := c) (by omega), nI_clamp (n := s.length) (by omega), nI_clamp (n := n) (by omega), nI_1, EV, EW, CT, ev_o, ev_is, ev_gd, List.length_cons, List.length_nil, Nat.reduceLT, Nat.reduceAdd, Nat.reduceEqDiff, Nat.reduceLeDiff, Int32.reduceLT, Int32.reduceLE, reduceIte, true_and, and_true, true_or, or_true, not_true_eq_false, not_false_eq_true, false_imp_iff, true_imp_iff, implies_true]
            exact nx _
      · rw [if_neg a1] at hps hS hN
        have hdl4 := Nat.mod_lt d (show 4 > 0 by decide)
        by_cases a2 : d % 4 = 2
        · have eD : nI d &&& 3 = nI 2 := by rw [an3, a2]
          rw [if_neg (by omega)] at hbit
          rw [a2, show s.length + 1 + 2 - 2 = s.length + 1 by omega] at hpt
          rcases (show kd n = 0 ∨ kd n = 1 ∨ kd n = 2 ∨ kd n = 3 by omega) with kk | kk | kk | kk
          · have KD : H.2.1 n = 0 := by rw [e1, kk]; rfl
            have none_ := hN (by rw [if_pos (.inr (.inl (by omega)))]) w1 op lp _ h71 h72 h45 hk
            refine cx_run 200 mM_lay_mo ?_
            simp (decide := true) only [KD, BmM_lay, BSM, List.length_cons, h45, k56, k61, k65, h71, h72, E0, m1, vc, vS, vN, hpa, hopn, eD, sd, nI_clamp (n := c) (by omega), nI_clamp (n := s.length) (by omega), nI_clamp (n := n) (by omega), nI_1, EV, EW, CT, ev_o, ev_is, ev_gd, List.length_cons, List.length_nil, Nat.reduceLT, Nat.reduceAdd, Nat.reduceEqDiff, Nat.reduceLeDiff, Int32.reduceLT, Int32.reduceLE, reduceIte, true_and, and_true, true_or, or_true, not_true_eq_false, not_false_eq_true, false_imp_iff, true_imp_iff, implies_true]
            exact none_
          · have KD : H.2.1 n = 1 := by rw [e1, kk]; rfl
            have none_ := hN (by rw [if_pos (.inr (.inl (by omega)))]) w1 op lp _ h71 h72 h45 hk
            refine cx_run 200 mM_lay_mo ?_
            simp (decide := true) only [KD, BmM_lay, BSM, List.length_cons, h45, k56, k61, k65, h71, h72, E0, m1, vc, vS, vN, hpa, hopn, eD, sd, nI_clamp (n := c) (by omega), nI_clamp (n := s.length) (by omega), nI_clamp (n := n) (by omega), nI_1, EV, EW, CT, ev_o, ev_is, ev_gd, List.length_cons, List.length_nil, Nat.reduceLT, Nat.reduceAdd, Nat.reduceEqDiff, Nat.reduceLeDiff, Int32.reduceLT, Int32.reduceLE, reduceIte, true_and, and_true, true_or, or_true, not_true_eq_false, not_false_eq_true, false_imp_iff, true_imp_iff, implies_true]
            exact none_
          · have KD : H.2.1 n = 3 := by rw [e1, kk]; rfl
            have ⟨x1, x2⟩ := e3 (by omega)
            cases hfs : fst
            · have EQ : (nI d = nI q) = False := eq_false (by rw [nI_eq h31 (by omega)]; exact hf2 hfs)
              cases hr : rt n
              · have F : rr n = 0 := rrn.2 fun z => by have y : rt n = true := z.2; rw [hr] at y; cases y
                rw [if_neg (fun z => z.elim (fun z => by omega) fun z => z.elim (fun z => by omega) fun z => by have y := z.2; rw [hr] at y; cases y), if_pos a2] at hS hN
                have nx : ∀ l8, cx_OK none mM_lay (dd + 2) 0 0 Q 40 [some (.ref 45), some (.int tp), some (.int (nI c)), some (.int (nI sw)), some (.int (nI (A + sumL (pc kd rt cost) ps))), some (.int (nI bit - 1)), some (.int (nI (s.length + 1))), some (.int (nI (d / 4))), l8, l9] [] (cx_up w1 71 (ai 8 (upd op s.length (nI (px n))))) (87, 0, 0) := fun l8 =>
                  ih (d / 4) false (px n :: s) ps bit _ (upd op s.length (nI (px n))) lp l8 l9 (by omega) (fun z => by cases z) (fun _ => by omega) (fun z => by cases z) (fun _ x hx => (List.mem_cons.mp hx).elim (fun e => by omega) (hss x)) (by omega) (fun x hx => (List.mem_cons.mp hx).elim (fun e => by rw [e]; exact hlc.1 kk) fun h => hlv x (List.mem_cons_of_mem _ h)) hpt (by simp only [List.length_cons]; omega) hop.2.push hlp (by omega) (by omega) hb3
                    (by simp only [cx_up, Nat.reduceEqDiff, reduceIte]) (by simp only [cx_up, Nat.reduceEqDiff, reduceIte]; exact h72) (by simp only [cx_up, Nat.reduceEqDiff, reduceIte]; exact h45) (fun k z => by rw [← hk k z]; simp (disch := omega) only [cx_up, if_neg]) hS hN
                refine cx_run 200 mM_lay_mo ?_
                simp (decide := true) only [KD, EQ, F, x1, k57, BmM_lay, BSM, List.length_cons, h45, k56, k61, k65, h71, h72, E0, m1, vc, vS, vN, hpa, hopn, eD, sd, nI_clamp (n := c) (by omega), nI_clamp (n := s.length) (by omega), nI_clamp (n := n) (by omega), nI_1, EV, EW, CT, ev_o, ev_is, ev_gd, List.length_cons, List.length_nil, Nat.reduceLT, Nat.reduceAdd, Nat.reduceEqDiff, Nat.reduceLeDiff, Int32.reduceLT, Int32.reduceLE, reduceIte, true_and, and_true, true_or, or_true, not_true_eq_false, not_false_eq_true, false_imp_iff, true_imp_iff, implies_true]
                exact nx _
              · have F : rr n = 1 := rrn.1 ⟨hnG, hr⟩
                have none_ := hN (by rw [if_pos (.inr (.inr ⟨hfs, hr⟩))]) w1 op lp _ h71 h72 h45 hk
                refine cx_run 200 mM_lay_mo ?_
                simp (decide := true) only [KD, EQ, F, BmM_lay, BSM, List.length_cons, h45, k56, k61, k65, h71, h72, E0, m1, vc, vS, vN, hpa, hopn, eD, sd, nI_clamp (n := c) (by omega), nI_clamp (n := s.length) (by omega), nI_clamp (n := n) (by omega), nI_1, EV, EW, CT, ev_o, ev_is, ev_gd, List.length_cons, List.length_nil, Nat.reduceLT, Nat.reduceAdd, Nat.reduceEqDiff, Nat.reduceLeDiff, Int32.reduceLT, Int32.reduceLE, reduceIte, true_and, and_true, true_or, or_true, not_true_eq_false, not_false_eq_true, false_imp_iff, true_imp_iff, implies_true]
                exact none_
            · have EQ : (nI d = nI q) = True := eq_true (by rw [hf1 hfs])
              rw [if_neg (fun z => z.elim (fun z => by omega) fun z => z.elim (fun z => by omega) fun z => by have y := z.1; rw [hfs] at y; cases y), if_pos a2] at hS hN
              have nx : ∀ l8, cx_OK none mM_lay (dd + 2) 0 0 Q 40 [some (.ref 45), some (.int tp), some (.int (nI c)), some (.int (nI sw)), some (.int (nI (A + sumL (pc kd rt cost) ps))), some (.int (nI bit - 1)), some (.int (nI (s.length + 1))), some (.int (nI (d / 4))), l8, l9] [] (cx_up w1 71 (ai 8 (upd op s.length (nI (px n))))) (87, 0, 0) := fun l8 =>
                ih (d / 4) false (px n :: s) ps bit _ (upd op s.length (nI (px n))) lp l8 l9 (by omega) (fun z => by cases z) (fun _ => by omega) (fun z => by cases z) (fun _ x hx => (List.mem_cons.mp hx).elim (fun e => by omega) (hss x)) (by omega) (fun x hx => (List.mem_cons.mp hx).elim (fun e => by rw [e]; exact hlc.1 kk) fun h => hlv x (List.mem_cons_of_mem _ h)) hpt (by simp only [List.length_cons]; omega) hop.2.push hlp (by omega) (by omega) hb3
                  (by simp only [cx_up, Nat.reduceEqDiff, reduceIte]) (by simp only [cx_up, Nat.reduceEqDiff, reduceIte]; exact h72) (by simp only [cx_up, Nat.reduceEqDiff, reduceIte]; exact h45) (fun k z => by rw [← hk k z]; simp (disch := omega) only [cx_up, if_neg]) hS hN
              refine cx_run 200 mM_lay_mo ?_
              simp (decide := true) only [KD, EQ, x1, k57, BmM_lay, BSM, List.length_cons, h45, k56, k61, k65, h71, h72, E0, m1, vc, vS, vN, hpa, hopn, eD, sd, nI_clamp (n := c) (by omega), nI_clamp (n := s.length) (by omega), nI_clamp (n := n) (by omega), nI_1, EV, EW, CT, ev_o, ev_is, ev_gd, List.length_cons, List.length_nil, Nat.reduceLT, Nat.reduceAdd, Nat.reduceEqDiff, Nat.reduceLeDiff, Int32.reduceLT, Int32.reduceLE, reduceIte, true_and, and_true, true_or, or_true, not_true_eq_false, not_false_eq_true, false_imp_iff, true_imp_iff, implies_true]
              exact nx _
          · have KD : H.2.1 n = 2 := by rw [e1, kk]; rfl
            have none_ := hN (by rw [if_pos (.inr (.inl (by omega)))]) w1 op lp _ h71 h72 h45 hk
            refine cx_run 200 mM_lay_mo ?_
            simp (decide := true) only [KD, BmM_lay, BSM, List.length_cons, h45, k56, k61, k65, h71, h72, E0, m1, vc, vS, vN, hpa, hopn, eD, sd, nI_clamp (n := c) (by omega), nI_clamp (n := s.length) (by omega), nI_clamp (n := n) (by omega), nI_1, EV, EW, CT, ev_o, ev_is, ev_gd, List.length_cons, List.length_nil, Nat.reduceLT, Nat.reduceAdd, Nat.reduceEqDiff, Nat.reduceLeDiff, Int32.reduceLT, Int32.reduceLE, reduceIte, true_and, and_true, true_or, or_true, not_true_eq_false, not_false_eq_true, false_imp_iff, true_imp_iff, implies_true]
            exact none_
        · have a3 : d % 4 = 3 := by omega
          have eD : nI d &&& 3 = nI 3 := by rw [an3, a3]
          rw [if_pos a3] at hbit
          rw [a3, show s.length + 1 + 3 - 2 = s.length + 2 by omega] at hpt
          obtain ⟨bt, hbt⟩ : ∃ bt, bit = bt + 1 := ⟨bit - 1, by omega⟩
          subst hbt
          have m2 : nI (bt + 1) - 1 = nI bt := nI_pred _
          have eB := bitN (a := sw) (k := bt) (by omega) (by omega)
          rcases (show kd n = 0 ∨ kd n = 1 ∨ kd n = 2 ∨ kd n = 3 by omega) with kk | kk | kk | kk
          · have KD : H.2.1 n = 0 := by rw [e1, kk]; rfl
            have none_ := hN (by rw [if_pos (.inr (.inl (by omega)))]) w1 op lp _ h71 h72 h45 hk
            refine cx_run 200 mM_lay_mo ?_
            simp (decide := true) only [KD, BmM_lay, BSM, List.length_cons, h45, k56, k61, k65, h71, h72, E0, m1, vc, vS, vN, hpa, hopn, eD, sd, nI_clamp (n := c) (by omega), nI_clamp (n := s.length) (by omega), nI_clamp (n := n) (by omega), nI_1, EV, EW, CT, ev_o, ev_is, ev_gd, List.length_cons, List.length_nil, Nat.reduceLT, Nat.reduceAdd, Nat.reduceEqDiff, Nat.reduceLeDiff, Int32.reduceLT, Int32.reduceLE, reduceIte, true_and, and_true, true_or, or_true, not_true_eq_false, not_false_eq_true, false_imp_iff, true_imp_iff, implies_true]
            exact none_
          · have KD : H.2.1 n = 1 := by rw [e1, kk]; rfl
            have none_ := hN (by rw [if_pos (.inr (.inl (by omega)))]) w1 op lp _ h71 h72 h45 hk
            refine cx_run 200 mM_lay_mo ?_
            simp (decide := true) only [KD, BmM_lay, BSM, List.length_cons, h45, k56, k61, k65, h71, h72, E0, m1, vc, vS, vN, hpa, hopn, eD, sd, nI_clamp (n := c) (by omega), nI_clamp (n := s.length) (by omega), nI_clamp (n := n) (by omega), nI_1, EV, EW, CT, ev_o, ev_is, ev_gd, List.length_cons, List.length_nil, Nat.reduceLT, Nat.reduceAdd, Nat.reduceEqDiff, Nat.reduceLeDiff, Int32.reduceLT, Int32.reduceLE, reduceIte, true_and, and_true, true_or, or_true, not_true_eq_false, not_false_eq_true, false_imp_iff, true_imp_iff, implies_true]
            exact none_
          · have KD : H.2.1 n = 3 := by rw [e1, kk]; rfl
            have none_ := hN (by rw [if_pos (.inr (.inl (by omega)))]) w1 op lp _ h71 h72 h45 hk
            refine cx_run 200 mM_lay_mo ?_
            simp (decide := true) only [KD, BmM_lay, BSM, List.length_cons, h45, k56, k61, k65, h71, h72, E0, m1, vc, vS, vN, hpa, hopn, eD, sd, nI_clamp (n := c) (by omega), nI_clamp (n := s.length) (by omega), nI_clamp (n := n) (by omega), nI_1, EV, EW, CT, ev_o, ev_is, ev_gd, List.length_cons, List.length_nil, Nat.reduceLT, Nat.reduceAdd, Nat.reduceEqDiff, Nat.reduceLeDiff, Int32.reduceLT, Int32.reduceLE, reduceIte, true_and, and_true, true_or, or_true, not_true_eq_false, not_false_eq_true, false_imp_iff, true_imp_iff, implies_true]
            exact none_
          · have KD : H.2.1 n = 2 := by rw [e1, kk]; rfl
            have ⟨x1, x2⟩ := e3 (by omega)
            have ⟨y1, y2, y3⟩ := e4 kk
            cases hfs : fst
            · have EQ : (nI d = nI q) = False := eq_false (by rw [nI_eq h31 (by omega)]; exact hf2 hfs)
              cases hr : rt n
              · have F : rr n = 0 := rrn.2 fun z => by have y : rt n = true := z.2; rw [hr] at y; cases y
                rw [if_neg (fun z => z.elim (fun z => by omega) fun z => z.elim (fun z => by omega) fun z => by have y := z.2; rw [hr] at y; cases y), if_neg a2, Nat.add_sub_cancel] at hS hN
                cases sb : sw.testBit bt
                · have SB : sw / 2 ^ bt % 2 = 0 := by have h := tb_bool (a := sw) (k := bt); rw [sb] at h; exact h.symm
                  rw [SB] at eB
                  rw [sb] at hS hN
                  have nx : ∀ l8 l9, cx_OK none mM_lay (dd + 2) 0 0 Q 40 [some (.ref 45), some (.int tp), some (.int (nI c)), some (.int (nI sw)), some (.int (nI (A + sumL (pc kd rt cost) ps))), some (.int (nI bt - 1)), some (.int (nI (s.length + 2))), some (.int (nI (d / 4))), l8, l9] [] (cx_up (cx_up w1 71 (ai 8 (upd op s.length (nI (py n))))) 71 (ai 8 (upd (upd op s.length (nI (py n))) (s.length + 1) (nI (px n))))) (87, 0, 0) := fun l8 l9 =>
                    ih (d / 4) false (px n :: py n :: s) ps bt _ (upd (upd op s.length (nI (py n))) (s.length + 1) (nI (px n))) lp l8 l9 (by omega) (fun z => by cases z) (fun _ => by omega) (fun z => by cases z) (fun _ x hx => (List.mem_cons.mp hx).elim (fun e => by omega) fun e => (List.mem_cons.mp e).elim (fun e => by omega) (hss x)) (by omega) (fun x hx => (List.mem_cons.mp hx).elim (fun e => by rw [e]; first | exact (hlc.2 kk).1 | exact (hlc.2 kk).2) fun e => (List.mem_cons.mp e).elim (fun e => by rw [e]; first | exact (hlc.2 kk).1 | exact (hlc.2 kk).2) fun h => hlv x (List.mem_cons_of_mem _ h)) hpt (by simp only [List.length_cons]; omega) (hop.2.push (n := py n)).push hlp (by omega) (by omega) (by omega)
                      (by simp only [cx_up, Nat.reduceEqDiff, reduceIte]) (by simp only [cx_up, Nat.reduceEqDiff, reduceIte]; exact h72) (by simp only [cx_up, Nat.reduceEqDiff, reduceIte]; exact h45) (fun k z => by rw [← hk k z]; simp (disch := omega) only [cx_up, if_neg]) hS hN
                  rw [Int32.sub_eq_add_neg] at nx
                  have vS1 : vp_in (nI (s.length + 1)) 8 := nI_in (by omega) (by decide)
                  have a22 : nI s.length + 2 = nI (s.length + 2) := nI_add _ 2
                  refine cx_run 200 mM_lay_mo ?_
                  simp (decide := true) only [KD, EQ, F, x1, y1, k57, k58, m2, eB, vS1, a22, nI_clamp (n := s.length + 1) (by omega), BmM_lay, BSM, List.length_cons, h45, k56, k61, k65, h71, h72, E0, m1, vc, vS, vN, hpa, hopn, eD, sd, nI_clamp (n := c) (by omega), nI_clamp (n := s.length) (by omega), nI_clamp (n := n) (by omega), nI_1, EV, EW, CT, ev_o, ev_is, ev_gd, List.length_cons, List.length_nil, Nat.reduceLT, Nat.reduceAdd, Nat.reduceEqDiff, Nat.reduceLeDiff, Int32.reduceLT, Int32.reduceLE, reduceIte, true_and, and_true, true_or, or_true, not_true_eq_false, not_false_eq_true, false_imp_iff, true_imp_iff, implies_true]
                  exact nx _ _
                · have SB : sw / 2 ^ bt % 2 = 1 := by have h := tb_bool (a := sw) (k := bt); rw [sb] at h; exact h.symm
                  rw [SB] at eB
                  rw [sb] at hS hN
                  have nx : ∀ l8 l9, cx_OK none mM_lay (dd + 2) 0 0 Q 40 [some (.ref 45), some (.int tp), some (.int (nI c)), some (.int (nI sw)), some (.int (nI (A + sumL (pc kd rt cost) ps))), some (.int (nI bt - 1)), some (.int (nI (s.length + 2))), some (.int (nI (d / 4))), l8, l9] [] (cx_up (cx_up w1 71 (ai 8 (upd op s.length (nI (px n))))) 71 (ai 8 (upd (upd op s.length (nI (px n))) (s.length + 1) (nI (py n))))) (87, 0, 0) := fun l8 l9 =>
                    ih (d / 4) false (py n :: px n :: s) ps bt _ (upd (upd op s.length (nI (px n))) (s.length + 1) (nI (py n))) lp l8 l9 (by omega) (fun z => by cases z) (fun _ => by omega) (fun z => by cases z) (fun _ x hx => (List.mem_cons.mp hx).elim (fun e => by omega) fun e => (List.mem_cons.mp e).elim (fun e => by omega) (hss x)) (by omega) (fun x hx => (List.mem_cons.mp hx).elim (fun e => by rw [e]; first | exact (hlc.2 kk).1 | exact (hlc.2 kk).2) fun e => (List.mem_cons.mp e).elim (fun e => by rw [e]; first | exact (hlc.2 kk).1 | exact (hlc.2 kk).2) fun h => hlv x (List.mem_cons_of_mem _ h)) hpt (by simp only [List.length_cons]; omega) (hop.2.push (n := px n)).push hlp (by omega) (by omega) (by omega)
                      (by simp only [cx_up, Nat.reduceEqDiff, reduceIte]) (by simp only [cx_up, Nat.reduceEqDiff, reduceIte]; exact h72) (by simp only [cx_up, Nat.reduceEqDiff, reduceIte]; exact h45) (fun k z => by rw [← hk k z]; simp (disch := omega) only [cx_up, if_neg]) hS hN
                  rw [Int32.sub_eq_add_neg] at nx
                  have vS1 : vp_in (nI (s.length + 1)) 8 := nI_in (by omega) (by decide)
                  have a22 : nI s.length + 2 = nI (s.length + 2) := nI_add _ 2
                  refine cx_run 200 mM_lay_mo ?_
                  simp (decide := true) only [KD, EQ, F, x1, y1, k57, k58, m2, eB, vS1, a22, nI_clamp (n := s.length + 1) (by omega), BmM_lay, BSM, List.length_cons, h45, k56, k61, k65, h71, h72, E0, m1, vc, vS, vN, hpa, hopn, eD, sd, nI_clamp (n := c) (by omega), nI_clamp (n := s.length) (by omega), nI_clamp (n := n) (by omega), nI_1, EV, EW, CT, ev_o, ev_is, ev_gd, List.length_cons, List.length_nil, Nat.reduceLT, Nat.reduceAdd, Nat.reduceEqDiff, Nat.reduceLeDiff, Int32.reduceLT, Int32.reduceLE, reduceIte, true_and, and_true, true_or, or_true, not_true_eq_false, not_false_eq_true, false_imp_iff, true_imp_iff, implies_true]
                  exact nx _ _
              · have F : rr n = 1 := rrn.1 ⟨hnG, hr⟩
                have none_ := hN (by rw [if_pos (.inr (.inr ⟨hfs, hr⟩))]) w1 op lp _ h71 h72 h45 hk
                refine cx_run 200 mM_lay_mo ?_
                simp (decide := true) only [KD, EQ, F, BmM_lay, BSM, List.length_cons, h45, k56, k61, k65, h71, h72, E0, m1, vc, vS, vN, hpa, hopn, eD, sd, nI_clamp (n := c) (by omega), nI_clamp (n := s.length) (by omega), nI_clamp (n := n) (by omega), nI_1, EV, EW, CT, ev_o, ev_is, ev_gd, List.length_cons, List.length_nil, Nat.reduceLT, Nat.reduceAdd, Nat.reduceEqDiff, Nat.reduceLeDiff, Int32.reduceLT, Int32.reduceLE, reduceIte, true_and, and_true, true_or, or_true, not_true_eq_false, not_false_eq_true, false_imp_iff, true_imp_iff, implies_true]
                exact none_
            · have EQ : (nI d = nI q) = True := eq_true (by rw [hf1 hfs])
              rw [if_neg (fun z => z.elim (fun z => by omega) fun z => z.elim (fun z => by omega) fun z => by have y := z.1; rw [hfs] at y; cases y), if_neg a2, Nat.add_sub_cancel] at hS hN
              cases sb : sw.testBit bt
              · have SB : sw / 2 ^ bt % 2 = 0 := by have h := tb_bool (a := sw) (k := bt); rw [sb] at h; exact h.symm
                rw [SB] at eB
                rw [sb] at hS hN
                have nx : ∀ l8 l9, cx_OK none mM_lay (dd + 2) 0 0 Q 40 [some (.ref 45), some (.int tp), some (.int (nI c)), some (.int (nI sw)), some (.int (nI (A + sumL (pc kd rt cost) ps))), some (.int (nI bt - 1)), some (.int (nI (s.length + 2))), some (.int (nI (d / 4))), l8, l9] [] (cx_up (cx_up w1 71 (ai 8 (upd op s.length (nI (py n))))) 71 (ai 8 (upd (upd op s.length (nI (py n))) (s.length + 1) (nI (px n))))) (87, 0, 0) := fun l8 l9 =>
                  ih (d / 4) false (px n :: py n :: s) ps bt _ (upd (upd op s.length (nI (py n))) (s.length + 1) (nI (px n))) lp l8 l9 (by omega) (fun z => by cases z) (fun _ => by omega) (fun z => by cases z) (fun _ x hx => (List.mem_cons.mp hx).elim (fun e => by omega) fun e => (List.mem_cons.mp e).elim (fun e => by omega) (hss x)) (by omega) (fun x hx => (List.mem_cons.mp hx).elim (fun e => by rw [e]; first | exact (hlc.2 kk).1 | exact (hlc.2 kk).2) fun e => (List.mem_cons.mp e).elim (fun e => by rw [e]; first | exact (hlc.2 kk).1 | exact (hlc.2 kk).2) fun h => hlv x (List.mem_cons_of_mem _ h)) hpt (by simp only [List.length_cons]; omega) (hop.2.push (n := py n)).push hlp (by omega) (by omega) (by omega)
                    (by simp only [cx_up, Nat.reduceEqDiff, reduceIte]) (by simp only [cx_up, Nat.reduceEqDiff, reduceIte]; exact h72) (by simp only [cx_up, Nat.reduceEqDiff, reduceIte]; exact h45) (fun k z => by rw [← hk k z]; simp (disch := omega) only [cx_up, if_neg]) hS hN
                rw [Int32.sub_eq_add_neg] at nx
                have vS1 : vp_in (nI (s.length + 1)) 8 := nI_in (by omega) (by decide)
                have a22 : nI s.length + 2 = nI (s.length + 2) := nI_add _ 2
                refine cx_run 200 mM_lay_mo ?_
                simp (decide := true) only [KD, EQ, x1, y1, k57, k58, m2, eB, vS1, a22, nI_clamp (n := s.length + 1) (by omega), BmM_lay, BSM, List.length_cons, h45, k56, k61, k65, h71, h72, E0, m1, vc, vS, vN, hpa, hopn, eD, sd, nI_clamp (n := c) (by omega), nI_clamp (n := s.length) (by omega), nI_clamp (n := n) (by omega), nI_1, EV, EW, CT, ev_o, ev_is, ev_gd, List.length_cons, List.length_nil, Nat.reduceLT, Nat.reduceAdd, Nat.reduceEqDiff, Nat.reduceLeDiff, Int32.reduceLT, Int32.reduceLE, reduceIte, true_and, and_true, true_or, or_true, not_true_eq_false, not_false_eq_true, false_imp_iff, true_imp_iff, implies_true]
                exact nx _ _
              · have SB : sw / 2 ^ bt % 2 = 1 := by have h := tb_bool (a := sw) (k := bt); rw [sb] at h; exact h.symm
                rw [SB] at eB
                rw [sb] at hS hN
                have nx : ∀ l8 l9, cx_OK none mM_lay (dd + 2) 0 0 Q 40 [some (.ref 45), some (.int tp), some (.int (nI c)), some (.int (nI sw)), some (.int (nI (A + sumL (pc kd rt cost) ps))), some (.int (nI bt - 1)), some (.int (nI (s.length + 2))), some (.int (nI (d / 4))), l8, l9] [] (cx_up (cx_up w1 71 (ai 8 (upd op s.length (nI (px n))))) 71 (ai 8 (upd (upd op s.length (nI (px n))) (s.length + 1) (nI (py n))))) (87, 0, 0) := fun l8 l9 =>
                  ih (d / 4) false (py n :: px n :: s) ps bt _ (upd (upd op s.length (nI (px n))) (s.length + 1) (nI (py n))) lp l8 l9 (by omega) (fun z => by cases z) (fun _ => by omega) (fun z => by cases z) (fun _ x hx => (List.mem_cons.mp hx).elim (fun e => by omega) fun e => (List.mem_cons.mp e).elim (fun e => by omega) (hss x)) (by omega) (fun x hx => (List.mem_cons.mp hx).elim (fun e => by rw [e]; first | exact (hlc.2 kk).1 | exact (hlc.2 kk).2) fun e => (List.mem_cons.mp e).elim (fun e => by rw [e]; first | exact (hlc.2 kk).1 | exact (hlc.2 kk).2) fun h => hlv x (List.mem_cons_of_mem _ h)) hpt (by simp only [List.length_cons]; omega) (hop.2.push (n := px n)).push hlp (by omega) (by omega) (by omega)
                    (by simp only [cx_up, Nat.reduceEqDiff, reduceIte]) (by simp only [cx_up, Nat.reduceEqDiff, reduceIte]; exact h72) (by simp only [cx_up, Nat.reduceEqDiff, reduceIte]; exact h45) (fun k z => by rw [← hk k z]; simp (disch := omega) only [cx_up, if_neg]) hS hN
                rw [Int32.sub_eq_add_neg] at nx
                have vS1 : vp_in (nI (s.length + 1)) 8 := nI_in (by omega) (by decide)
                have a22 : nI s.length + 2 = nI (s.length + 2) := nI_add _ 2
                refine cx_run 200 mM_lay_mo ?_
                simp (decide := true) only [KD, EQ, x1, y1, k57, k58, m2, eB, vS1, a22, nI_clamp (n := s.length + 1) (by omega), BmM_lay, BSM, List.length_cons, h45, k56, k61, k65, h71, h72, E0, m1, vc, vS, vN, hpa, hopn, eD, sd, nI_clamp (n := c) (by omega), nI_clamp (n := s.length) (by omega), nI_clamp (n := n) (by omega), nI_1, EV, EW, CT, ev_o, ev_is, ev_gd, List.length_cons, List.length_nil, Nat.reduceLT, Nat.reduceAdd, Nat.reduceEqDiff, Nat.reduceLeDiff, Int32.reduceLT, Int32.reduceLE, reduceIte, true_and, and_true, true_or, or_true, not_true_eq_false, not_false_eq_true, false_imp_iff, true_imp_iff, implies_true]
                exact nx _ _

