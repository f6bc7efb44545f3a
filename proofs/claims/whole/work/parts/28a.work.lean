/-! What a cell gives, what comes: the reference's side. Own work. -/
theorem nI_sb {a b : Nat} (h : b ≤ a) : nI a - nI b = nI (a - b) := by
  have e : nI a = nI (a - b) + nI b := by rw [nI_add]; exact congrArg nI (by omega)
  rw [e, Int32.add_sub_cancel]
theorem wk_inv {a : Nat} (h : a ≤ 1) : (1 : Int32) - nI a = nI (1 - a) := nI_sb (a := 1) h
theorem wk_nand {a b : Nat} (ha : a ≤ 1) (hb : b ≤ 1) : (1 : Int32) - (nI a &&& nI b) = nI (1 - a * b) := by
  rcases (show a = 0 ∨ a = 1 by omega) with rfl | rfl <;> rcases (show b = 0 ∨ b = 1 by omega) with rfl | rfl <;> rfl
set_option maxHeartbeats 16000000 in
theorem mwk_loop {w : cx_W} {c q bits : Nat} {x0 x1 x2 x3 x4 x5 x6 x7 x8 x9 : Int32} {pa : Nat → Int32} {Q : cx_Q} (h45 : w 45 = oM x0 x1 x2 x3 x4 x5 x6 x7 x8 x9) (h61 : w 61 = ai 8 pa) (hc : c < 8) (hpa : pa c = nI q) (hq : q ∈ pats) (hb : bits < 16)
    (hQ : ∀ (w1 : cx_W) (op : Nat → Int32), w1 86 = ai 8 op → (∀ k, ¬ k = 86 → w1 k = w k) → Q (some (.int (nI (wkP q bits)))) w1 (87, 0, 0)) :
    ∀ (m i : Nat) (w1 : cx_W) (op : Nat → Int32) (l6 : Option Value), i + m = 7 → w1 86 = ai 8 op → (∀ k, ¬ k = 86 → w1 k = w k) → Stk op (wkF q bits i).1 →
    cx_OK none mM_work 8 0 0 Q 13 [some (.ref 45), some (.int (nI c)), some (.int (nI bits)), some (.int (nI (wkF q bits i).2)), some (.int (nI (wkF q bits i).1.length)), some (.int (nI m - 1)), l6] [] w1 (87, 0, 0) := by
  have hq2 := pats_lt hq
  have vc : vp_in (nI c) 8 := nI_in hc (by decide)
  intro m
  induction m with
  | zero =>
    intro i w1 op l6 hi h86 hk hs
    have h7 : i = 7 := by omega
    subst h7
    have ⟨_, hl, _, _⟩ := pat_all hq hb
    have hg := hQ w1 op h86 hk
    unfold wkP at hg
    have k45 := (hk 45 (by decide)).trans h45
    match e : (wkF q bits 7).1, hl with
    | [x], _ =>
      rw [e] at hs hg
      have h0 : op 0 = nI x := hs.1
      have v0 : vp_in (0 : Int32) 8 := show vp_in (nI 0) 8 from nI_in (by decide) (by decide)
      have N : ((nI 0 - 1 : Int32) < 0) = True := by decide
      have C0 : (0 : Int32).toNatClampNeg = 0 := rfl
      refine cx_run 80 mM_work_mo ?_
      simp (decide := true) only [BmM_work, k45, h86, N, v0, C0, h0, EV, EW, CT, ev_o, ev_is, ev_gd, List.length_cons, List.length_nil, Nat.reduceLT, Nat.reduceAdd, Nat.reduceEqDiff, Nat.reduceLeDiff, Int32.reduceLT, Int32.reduceLE, reduceIte, true_and, and_true, true_or, or_true, not_true_eq_false, not_false_eq_true, false_imp_iff, true_imp_iff, implies_true]
      exact hg
  | succ m ih =>
    intro i w1 op l6 hi h86 hk hs
    have hm : m = 6 - i := by omega
    have ⟨_, s2, s3, s4, s5, s6, s7, s8⟩ := pat_at hq hb (show i < 7 by omega)
    have k45 := (hk 45 (by decide)).trans h45
    have k61 := (hk 61 (by decide)).trans h61
    have nx := ih (i + 1)
    rw [Int32.sub_eq_add_neg, wkF, ← hm] at nx
    rw [← hm] at s6 s7 s8
    rw [← s3] at s6 s2
    revert nx hs s2 s4 s5 s6 s7 s8
    generalize wkF q bits i = W
    obtain ⟨l, p⟩ := W
    intro hs s2 s4 s5 s6 s7 s8 nx
    dsimp only at hs s2 s4 s5 s6 s7 s8 nx ⊢
    have L0 : (nI m < 0) = False := eq_false (nI_pos (by omega))
    have e := dgtI (q := q) (k := m) (by omega) (by omega)
    have hd := dgt_lt q m
    refine cx_run 80 mM_work_mo ?_
    rw [nI_pred]
    unfold wkS at nx
    rcases (show dgt q m = 0 ∨ dgt q m = 1 ∨ dgt q m = 2 ∨ dgt q m = 3 by omega) with z | z | z | z
    · rw [z] at e nx
      rw [if_neg (by omega), if_neg (by omega), if_neg (by omega)] at nx
      have e2 : nI q >>> (2 * nI m &&& 31) &&& 3 = 0 := e
      simp (decide := true) only [BmM_work, k45, k61, L0, vc, hpa, e2, nI_clamp (n := c) (by omega), EV, EW, CT, ev_o, ev_is, ev_gd, List.length_cons, List.length_nil, Nat.reduceLT, Nat.reduceAdd, Nat.reduceEqDiff, Nat.reduceLeDiff, Int32.reduceLT, Int32.reduceLE, reduceIte, true_and, and_true, true_or, or_true, not_true_eq_false, not_false_eq_true, false_imp_iff, true_imp_iff, implies_true]
      exact nx w1 op _ (by omega) h86 hk hs
    · rw [z] at e nx
      rw [if_pos rfl] at nx
      have e2 : nI q >>> (2 * nI m &&& 31) &&& 3 = 1 := e
      have hp := s6 z
      obtain ⟨p', rfl⟩ : ∃ p', p = p' + 1 := ⟨p - 1, by omega⟩
      have vl : vp_in (nI l.length) 8 := nI_in (by omega) (by decide)
      have bb := bitN (a := bits) (k := p') (by omega) (by omega)
      simp (decide := true) only [BmM_work, k45, k61, h86, L0, vc, vl, hpa, e2, pk_m1, bb, nI_1, nI_clamp (n := c) (by omega), nI_clamp (n := l.length) (by omega), EV, EW, CT, ev_o, ev_is, ev_gd, List.length_cons, List.length_nil, Nat.reduceLT, Nat.reduceAdd, Nat.reduceEqDiff, Nat.reduceLeDiff, Int32.reduceLT, Int32.reduceLE, reduceIte, true_and, and_true, true_or, or_true, not_true_eq_false, not_false_eq_true, false_imp_iff, true_imp_iff, implies_true]
      exact nx _ (upd op l.length (nI (bits / 2 ^ p' % 2))) _ (by omega) (by simp only [cx_up, Nat.reduceEqDiff, reduceIte]) (fun k z => by rw [← hk k z]; simp (disch := omega) only [cx_up, if_neg]) hs.push
    · rw [z] at e nx
      rw [if_neg (by omega), if_pos rfl] at nx
      have e2 : nI q >>> (2 * nI m &&& 31) &&& 3 = 2 := e
      match l, hs, s4, s5, s7 z, nx with
      | a :: r, hs, s4, s5, _, nx =>
        have h1 : op r.length = nI a := hs.1
        rw [List.length_cons] at s4
        have ha := s5 a (List.mem_cons_self ..)
        have vl : vp_in (nI r.length) 8 := nI_in (by omega) (by decide)
        have b1 := wk_inv ha
        simp (decide := true) only [BmM_work, k45, k61, h86, L0, vc, vl, hpa, e2, nI_pred, h1, b1, nI_clamp (n := c) (by omega), nI_clamp (n := r.length) (by omega), EV, EW, CT, ev_o, ev_is, ev_gd, List.length_cons, List.length_nil, Nat.reduceLT, Nat.reduceAdd, Nat.reduceEqDiff, Nat.reduceLeDiff, Int32.reduceLT, Int32.reduceLE, reduceIte, true_and, and_true, true_or, or_true, not_true_eq_false, not_false_eq_true, false_imp_iff, true_imp_iff, implies_true]
        exact nx _ (upd op r.length (nI (1 - a))) _ (by omega) (by simp only [cx_up, Nat.reduceEqDiff, reduceIte]) (fun k z => by rw [← hk k z]; simp (disch := omega) only [cx_up, if_neg]) hs.2.push
    · rw [z] at e nx
      rw [if_neg (by omega), if_neg (by omega), if_pos rfl] at nx
      have e2 : nI q >>> (2 * nI m &&& 31) &&& 3 = 3 := e
      match l, hs, s4, s5, s8 z, nx with
      | b :: a :: r, hs, s4, s5, _, nx =>
        have h1 : op (r.length + 1) = nI b := hs.1
        have h2 : op r.length = nI a := hs.2.1
        rw [List.length_cons, List.length_cons] at s4
        have hb := s5 b (List.mem_cons_self ..)
        have ha := s5 a (List.mem_cons_of_mem _ (List.mem_cons_self ..))
        have vl : vp_in (nI r.length) 8 := nI_in (by omega) (by decide)
        have vl2 : vp_in (nI (r.length + 1)) 8 := nI_in (by omega) (by decide)
        have b1 := wk_nand ha hb
        simp (decide := true) only [BmM_work, k45, k61, h86, L0, vc, vl, vl2, hpa, e2, pk_m1, nI_pred, h1, h2, b1, nI_clamp (n := c) (by omega), nI_clamp (n := r.length) (by omega), nI_clamp (n := r.length + 1) (by omega), EV, EW, CT, ev_o, ev_is, ev_gd, List.length_cons, List.length_nil, Nat.reduceLT, Nat.reduceAdd, Nat.reduceEqDiff, Nat.reduceLeDiff, Int32.reduceLT, Int32.reduceLE, reduceIte, true_and, and_true, true_or, or_true, not_true_eq_false, not_false_eq_true, false_imp_iff, true_imp_iff, implies_true]
        exact nx _ (upd op r.length (nI (1 - a * b))) _ (by omega) (by simp only [cx_up, Nat.reduceEqDiff, reduceIte]) (fun k z => by rw [← hk k z]; simp (disch := omega) only [cx_up, if_neg]) hs.2.2.push
set_option maxHeartbeats 8000000 in
theorem c_M_work {w : cx_W} {c q bits : Nat} {x0 x1 x2 x3 x4 x5 x6 x7 x8 x9 : Int32} {pa op : Nat → Int32} (h45 : w 45 = oM x0 x1 x2 x3 x4 x5 x6 x7 x8 x9) (h61 : w 61 = ai 8 pa) (h86 : w 86 = ai 8 op) (hc : c < 8) (hpa : pa c = nI q) (hq : q ∈ pats) (hb : bits < 16) :
    cx_MC mM_work 8 0 0 [.ref 45, .int (nI c), .int (nI bits)] w 87 (fun r_ w2 => r_ = some (.int (nI (wkP q bits))) ∧ (∃ op2, w2 86 = ai 8 op2) ∧ ∀ k, ¬ k = 86 → w2 k = w k) := by
  refine cx_met 60 mM_work_ok rfl ?_
  show cx_vc 60 none mM_work 8 0 0 _ _ 0 [some (.ref 45), some (.int (nI c)), some (.int (nI bits)), none, none, none, none] [] w (87, 0, 0)
  simp (decide := true) only [BmM_work, h45, EV, EW, CT, ev_o, ev_is, ev_gd, List.length_cons, List.length_nil, Nat.reduceLT, Nat.reduceAdd, Nat.reduceEqDiff, Nat.reduceLeDiff, Int32.reduceLT, Int32.reduceLE, reduceIte, true_and, and_true, true_or, or_true, not_true_eq_false, not_false_eq_true, false_imp_iff, true_imp_iff, implies_true]
  refine cx_cs1 7 0 0 (by decide) (c_M_pinsOf (dd := 7) h45 h61 hc hpa hq) fun r w2 h2 => ?_
  obtain ⟨rfl, rfl⟩ := h2
  simp (decide := true) only [BmM_work, EV, EW, CT, ev_o, ev_is, ev_gd, List.length_cons, List.length_nil, Nat.reduceLT, Nat.reduceAdd, Nat.reduceEqDiff, Nat.reduceLeDiff, Int32.reduceLT, Int32.reduceLE, reduceIte, true_and, and_true, true_or, or_true, not_true_eq_false, not_false_eq_true, false_imp_iff, true_imp_iff, implies_true]
  exact mwk_loop (w := w2) h45 h61 hc hpa hq hb (fun w1 op1 a b => ⟨rfl, ⟨op1, a⟩, b⟩) 7 0 w2 op _ rfl h86 (fun _ _ => rfl) trivial
theorem l_bit2 {a k : Nat} (ha : a < 2 ^ 63) (hk : k < 64) : (lN a >>> ((nI k).toInt64 &&& 63) &&& (1 : Int32).toInt64).toInt32 = nI (a / 2 ^ k % 2) := by
  have h1 : lN (a / 2 ^ k) &&& (1 : Int32).toInt64 = lN (a / 2 ^ k % 2 ^ 1) := l_mask (a := a / 2 ^ k) (k := 1) (by omega)
  rw [l_shrN ha hk, h1]
  rcases (show a / 2 ^ k % 2 = 0 ∨ a / 2 ^ k % 2 = 1 by omega) with e | e
  · rw [show (2 : Nat) ^ 1 = 2 from rfl, e]; rfl
  · rw [show (2 : Nat) ^ 1 = 2 from rfl, e]; rfl
/-- what comes, as the reference reads it -/
theorem co_bit {sv lv bv j : Nat} {gv : Nat → Nat → Bool} (hlv : lv ≤ 6) (hbv : bv < 2 ^ lv) (c : j < lv) : nI lv - 1 - nI j = nI (lv - 1 - j) ∧ (lN bv >>> ((nI (lv - 1 - j)).toInt64 &&& 63) &&& (1 : Int32).toInt64).toInt32 = nI (rt_X gv sv lv bv j).toNat := by
  have hb63 : bv < 2 ^ 63 := Nat.lt_of_lt_of_le hbv (Nat.pow_le_pow_right (by decide) (by omega))
  refine ⟨?_, ?_⟩
  · rw [show (1 : Int32) = nI 1 from rfl, nI_sb (by omega), nI_sb (by omega)]
  · rw [l_bit2 hb63 (by omega)]
    unfold rt_X
    rw [if_pos c, tb_bool]
theorem co_row {sv lv bv j : Nat} {gv : Nat → Nat → Bool} {ga : Nat → Int32} (c : ¬ j < lv) (h : ga (48 * sv + (j - lv)) = nI (gv (j - lv) sv).toNat) : nI (48 * sv + j) - nI lv = nI (48 * sv + (j - lv)) ∧ ga (48 * sv + (j - lv)) = nI (rt_X gv sv lv bv j).toNat := by
  refine ⟨by rw [nI_sb (by omega)]; exact congrArg nI (by omega), ?_⟩
  unfold rt_X
  rw [if_neg c]; exact h
