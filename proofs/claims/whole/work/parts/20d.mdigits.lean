/-! Counting digits, the reference. Printed by gen_20d.py. -/
set_option maxHeartbeats 4000000 in
theorem nands_loop {w : cx_W} {c t : Nat} {dd : Nat} : ∀ (f d m : Nat), d < 4 ^ f → d < 2 ^ 31 → f ≤ 17 → m + cdr 3 f d = t →
    cx_OK none mM_nands dd 0 0 (fun r w2 _ => r = some (.int (nI t)) ∧ w2 = w) 9 [some (.ref 45), some (.int (nI c)), some (.int (nI m)), some (.int (nI d))] [] w (87, 0, 0) := by
  have done : ∀ m, m = t → cx_OK none mM_nands dd 0 0 (fun r w2 _ => r = some (.int (nI t)) ∧ w2 = w) 9 [some (.ref 45), some (.int (nI c)), some (.int (nI m)), some (.int (nI 0))] [] w (87, 0, 0) := by
    intro m hm
    subst hm
    have E : (nI 0 = 0) = True := eq_true rfl
    refine cx_run 60 mM_nands_mo ?_
    simp (decide := true) only [BmM_nands, E, EV, EW, CT, ev_o, ev_is, ev_gd, List.length_cons, List.length_nil, Nat.reduceLT, Nat.reduceAdd, Nat.reduceEqDiff, Nat.reduceLeDiff, Int32.reduceLT, Int32.reduceLE, reduceIte, true_and, and_true, true_or, or_true, not_true_eq_false, not_false_eq_true, false_imp_iff, true_imp_iff, implies_true]
  intro f
  induction f with
  | zero =>
    intro d m hd h31 hf ht
    have e : d = 0 := by have : d < 1 := hd; omega
    subst e
    rw [cdr] at ht
    exact done m ht
  | succ f ih =>
    intro d m hd h31 hf ht
    by_cases d0 : d = 0
    · subst d0
      rw [cdr, if_pos rfl] at ht
      exact done m ht
    · rw [cdr, if_neg d0] at ht
      have hd4 : d / 4 < 4 ^ f := by rw [Nat.pow_succ] at hd; omega
      have E := (z0 h31).trans (eq_false d0)
      by_cases q : d % 4 = 3
      · rw [if_pos q] at ht
        have nx := ih (d / 4) (m + 1) hd4 (by omega) (by omega) (by omega)
        have Q : (nI (d % 4) = 3) = True := eq_true (by rw [q]; rfl)
        refine cx_run 60 mM_nands_mo ?_
        simp (decide := true) only [BmM_nands, E, an3, sr2 h31, Q, nI_1, EV, EW, CT, ev_o, ev_is, ev_gd, List.length_cons, List.length_nil, Nat.reduceLT, Nat.reduceAdd, Nat.reduceEqDiff, Nat.reduceLeDiff, Int32.reduceLT, Int32.reduceLE, reduceIte, true_and, and_true, true_or, or_true, not_true_eq_false, not_false_eq_true, false_imp_iff, true_imp_iff, implies_true]
        exact nx
      · rw [if_neg q, Nat.zero_add] at ht
        have nx := ih (d / 4) m hd4 (by omega) (by omega) ht
        have Q : (nI (d % 4) = 3) = False := eq_false fun h => q ((nI_eq (b := 3) (by omega) (by decide)).mp h)
        refine cx_run 60 mM_nands_mo ?_
        simp (decide := true) only [BmM_nands, E, an3, sr2 h31, Q, nI_1, EV, EW, CT, ev_o, ev_is, ev_gd, List.length_cons, List.length_nil, Nat.reduceLT, Nat.reduceAdd, Nat.reduceEqDiff, Nat.reduceLeDiff, Int32.reduceLT, Int32.reduceLE, reduceIte, true_and, and_true, true_or, or_true, not_true_eq_false, not_false_eq_true, false_imp_iff, true_imp_iff, implies_true]
        exact nx
set_option maxHeartbeats 4000000 in
theorem c_M_nands {w : cx_W} {c q : Nat} {x0 x1 x2 x3 x4 x5 x6 x7 x8 x9 : Int32} {pa : Nat → Int32} {dd : Nat} (h45 : w 45 = oM x0 x1 x2 x3 x4 x5 x6 x7 x8 x9) (h61 : w 61 = ai 8 pa) (hc : c < 8) (hpa : pa c = nI q) (hq : q ∈ pats) :
    cx_MC mM_nands dd 0 0 [.ref 45, .int (nI c)] w 87 (fun r w2 => r = some (.int (nI (nandsP q))) ∧ w2 = w) := by
  have vc : vp_in (nI c) 8 := nI_in hc (by decide)
  have hl := pats_lt hq
  refine cx_met 60 mM_nands_ok rfl ?_
  show cx_vc 60 none mM_nands dd 0 0 _ _ 0 [some (.ref 45), some (.int (nI c)), none, none] [] w (87, 0, 0)
  simp (decide := true) only [BmM_nands, h45, h61, vc, hpa, nI_clamp (n := c) (by omega), EV, EW, CT, ev_o, ev_is, ev_gd, List.length_cons, List.length_nil, Nat.reduceLT, Nat.reduceAdd, Nat.reduceEqDiff, Nat.reduceLeDiff, Int32.reduceLT, Int32.reduceLE, reduceIte, true_and, and_true, true_or, or_true, not_true_eq_false, not_false_eq_true, false_imp_iff, true_imp_iff, implies_true]
  exact nands_loop 17 q 0 (by omega) (by omega) (by omega) (by rw [Nat.zero_add]; exact (pat_num hq).2.2.2.2.1)
set_option maxHeartbeats 4000000 in
theorem pinsOf_loop {w : cx_W} {c t : Nat} {dd : Nat} : ∀ (f d m : Nat), d < 4 ^ f → d < 2 ^ 31 → f ≤ 17 → m + cdr 1 f d = t →
    cx_OK none mM_pinsOf dd 0 0 (fun r w2 _ => r = some (.int (nI t)) ∧ w2 = w) 9 [some (.ref 45), some (.int (nI c)), some (.int (nI m)), some (.int (nI d))] [] w (87, 0, 0) := by
  have done : ∀ m, m = t → cx_OK none mM_pinsOf dd 0 0 (fun r w2 _ => r = some (.int (nI t)) ∧ w2 = w) 9 [some (.ref 45), some (.int (nI c)), some (.int (nI m)), some (.int (nI 0))] [] w (87, 0, 0) := by
    intro m hm
    subst hm
    have E : (nI 0 = 0) = True := eq_true rfl
    refine cx_run 60 mM_pinsOf_mo ?_
    simp (decide := true) only [BmM_pinsOf, E, EV, EW, CT, ev_o, ev_is, ev_gd, List.length_cons, List.length_nil, Nat.reduceLT, Nat.reduceAdd, Nat.reduceEqDiff, Nat.reduceLeDiff, Int32.reduceLT, Int32.reduceLE, reduceIte, true_and, and_true, true_or, or_true, not_true_eq_false, not_false_eq_true, false_imp_iff, true_imp_iff, implies_true]
  intro f
  induction f with
  | zero =>
    intro d m hd h31 hf ht
    have e : d = 0 := by have : d < 1 := hd; omega
    subst e
    rw [cdr] at ht
    exact done m ht
  | succ f ih =>
    intro d m hd h31 hf ht
    by_cases d0 : d = 0
    · subst d0
      rw [cdr, if_pos rfl] at ht
      exact done m ht
    · rw [cdr, if_neg d0] at ht
      have hd4 : d / 4 < 4 ^ f := by rw [Nat.pow_succ] at hd; omega
      have E := (z0 h31).trans (eq_false d0)
      by_cases q : d % 4 = 1
      · rw [if_pos q] at ht
        have nx := ih (d / 4) (m + 1) hd4 (by omega) (by omega) (by omega)
        have Q : (nI (d % 4) = 1) = True := eq_true (by rw [q]; rfl)
        refine cx_run 60 mM_pinsOf_mo ?_
        simp (decide := true) only [BmM_pinsOf, E, an3, sr2 h31, Q, nI_1, EV, EW, CT, ev_o, ev_is, ev_gd, List.length_cons, List.length_nil, Nat.reduceLT, Nat.reduceAdd, Nat.reduceEqDiff, Nat.reduceLeDiff, Int32.reduceLT, Int32.reduceLE, reduceIte, true_and, and_true, true_or, or_true, not_true_eq_false, not_false_eq_true, false_imp_iff, true_imp_iff, implies_true]
        exact nx
      · rw [if_neg q, Nat.zero_add] at ht
        have nx := ih (d / 4) m hd4 (by omega) (by omega) ht
        have Q : (nI (d % 4) = 1) = False := eq_false fun h => q ((nI_eq (b := 1) (by omega) (by decide)).mp h)
        refine cx_run 60 mM_pinsOf_mo ?_
        simp (decide := true) only [BmM_pinsOf, E, an3, sr2 h31, Q, nI_1, EV, EW, CT, ev_o, ev_is, ev_gd, List.length_cons, List.length_nil, Nat.reduceLT, Nat.reduceAdd, Nat.reduceEqDiff, Nat.reduceLeDiff, Int32.reduceLT, Int32.reduceLE, reduceIte, true_and, and_true, true_or, or_true, not_true_eq_false, not_false_eq_true, false_imp_iff, true_imp_iff, implies_true]
        exact nx
set_option maxHeartbeats 4000000 in
theorem c_M_pinsOf {w : cx_W} {c q : Nat} {x0 x1 x2 x3 x4 x5 x6 x7 x8 x9 : Int32} {pa : Nat → Int32} {dd : Nat} (h45 : w 45 = oM x0 x1 x2 x3 x4 x5 x6 x7 x8 x9) (h61 : w 61 = ai 8 pa) (hc : c < 8) (hpa : pa c = nI q) (hq : q ∈ pats) :
    cx_MC mM_pinsOf dd 0 0 [.ref 45, .int (nI c)] w 87 (fun r w2 => r = some (.int (nI (pinsP q))) ∧ w2 = w) := by
  have vc : vp_in (nI c) 8 := nI_in hc (by decide)
  have hl := pats_lt hq
  refine cx_met 60 mM_pinsOf_ok rfl ?_
  show cx_vc 60 none mM_pinsOf dd 0 0 _ _ 0 [some (.ref 45), some (.int (nI c)), none, none] [] w (87, 0, 0)
  simp (decide := true) only [BmM_pinsOf, h45, h61, vc, hpa, nI_clamp (n := c) (by omega), EV, EW, CT, ev_o, ev_is, ev_gd, List.length_cons, List.length_nil, Nat.reduceLT, Nat.reduceAdd, Nat.reduceEqDiff, Nat.reduceLeDiff, Int32.reduceLT, Int32.reduceLE, reduceIte, true_and, and_true, true_or, or_true, not_true_eq_false, not_false_eq_true, false_imp_iff, true_imp_iff, implies_true]
  exact pinsOf_loop 17 q 0 (by omega) (by omega) (by omega) (by rw [Nat.zero_add]; exact (pat_num hq).2.2.2.1)
