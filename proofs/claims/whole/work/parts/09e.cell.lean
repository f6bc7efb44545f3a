/-! A first cell, and the rest of the first calls. Own work. -/
set_option maxHeartbeats 4000000 in
theorem cd_loop {w : cx_W} {p dg : Int32} {dd : Nat} : ∀ (m k : Nat) (c : Int32), k + m = 7 →
    cx_OK none mLi_countDigits (dd + 1) 0 0 (fun r w2 _ => (∃ x, r = some (.int x)) ∧ w2 = w) 4 [some (.int p), some (.int dg), some (.int c), some (.int (nI k))] [] w (87, 0, 0) := by
  intro m
  induction m with
  | zero =>
    intro k c hk
    have h7 : k = 7 := by omega
    subst h7
    refine cx_run 60 mLi_countDigits_mo ?_
    simp only [BmLi_countDigits, BmLi_digitOf, le7 (k := 7) (by decide), not_true_eq_false, false_imp_iff, true_imp_iff, EV, EW, ev_o, ev_is, ev_gd, Nat.reduceLT, Nat.reduceAdd, Nat.reduceEqDiff, Nat.reduceLeDiff, reduceIte, true_and, and_true, true_or, or_true]
    exact ⟨_, rfl⟩
  | succ m ih =>
    intro k c hk
    refine cx_run 60 mLi_countDigits_mo ?_
    have hlt : ¬ 7 ≤ k := by omega
    simp only [BmLi_countDigits, BmLi_digitOf, le7 (k := k) (by omega), hlt, not_true_eq_false, not_false_eq_true, false_imp_iff, true_imp_iff, nI_1, EV, EW, ev_o, ev_is, ev_gd, Nat.reduceLT, Nat.reduceAdd, Nat.reduceEqDiff, Nat.reduceLeDiff, reduceIte, true_and, and_true, true_or, or_true]
    exact ⟨fun _ => ih (k + 1) _ (by omega), fun _ => ih (k + 1) _ (by omega)⟩
set_option maxHeartbeats 4000000 in
theorem w_Li_countDigits {w : cx_W} (p dg : Int32) {dd : Nat} : cx_MC mLi_countDigits (dd + 1) 0 0 [.int p, .int dg] w 87 (fun r w2 => (∃ x, r = some (.int x)) ∧ w2 = w) := by
  refine cx_met 60 mLi_countDigits_ok rfl ?_
  show cx_vc 60 none mLi_countDigits (dd + 1) 0 0 _ _ 0 [some (.int p), some (.int dg), none, none] [] w (87, 0, 0)
  simp only [BmLi_countDigits, EV, EW, ev_o, ev_is, ev_gd, Nat.reduceLT, Nat.reduceAdd, Nat.reduceEqDiff, Nat.reduceLeDiff, reduceIte, true_and, and_true, true_or, or_true]
  exact cd_loop 7 0 0 rfl
theorem ge0 {k : Nat} (h : k < 2 ^ 31) : ((0 : Int32) ≤ nI k) = True := eq_true (nI_pos' h)
set_option maxHeartbeats 4000000 in
theorem vo_loop {w : cx_W} {p pn pb : Int32} {dd : Nat} : ∀ (m : Nat) (st pin : Int32), m ≤ 7 →
    cx_OK none mLi_valueOf (dd + 1) 0 0 (fun r w2 _ => (∃ x, r = some (.int x)) ∧ w2 = w) 9 [some (.int p), some (.int pn), some (.int pb), some (.int st), some (.int pin), some (.int (nI m - 1))] [] w (87, 0, 0) := by
  intro m
  induction m with
  | zero =>
    intro st pin hk
    refine cx_run 60 mLi_valueOf_mo ?_
    simp (decide := true) only [BmLi_valueOf, BmLi_digitOf, nI_0, not_true_eq_false, not_false_eq_true, false_imp_iff, true_imp_iff, EV, EW, ev_o, ev_is, ev_gd, Nat.reduceLT, Nat.reduceAdd, Nat.reduceEqDiff, Nat.reduceLeDiff, reduceIte, true_and, and_true, true_or, or_true]
    exact ⟨_, rfl⟩
  | succ m ih =>
    intro st pin hk
    refine cx_run 60 mLi_valueOf_mo ?_
    rw [nI_pred]
    have hlt : ¬ nI m < 0 := nI_pos (by omega)
    have back : ∀ st2 pin2, cx_OK none mLi_valueOf (dd + 1) 0 0 (fun r w2 _ => (∃ x, r = some (.int x)) ∧ w2 = w) 9 [some (.int p), some (.int pn), some (.int pb), some (.int st2), some (.int pin2), some (.int (nI m + -1))] [] w (87, 0, 0) := by
      intro st2 pin2
      have := ih st2 pin2 (by omega)
      rw [Int32.sub_eq_add_neg] at this
      exact this
    simp only [BmLi_valueOf, BmLi_digitOf, hlt, not_true_eq_false, not_false_eq_true, false_imp_iff, true_imp_iff, EV, EW, ev_o, ev_is, ev_gd, Nat.reduceLT, Nat.reduceAdd, Nat.reduceEqDiff, Nat.reduceLeDiff, reduceIte, true_and, and_true, true_or, or_true]
    refine ⟨fun _ => back _ _, fun o t q1 q2 ho ht => ?_⟩
    generalize p >>> (2 * nI m &&& 31) &&& 3 = x at q1 q2 ho
    obtain ⟨j, hj, hj3⟩ : ∃ j : Nat, x.toInt = (j : Int) + 1 ∧ j ≤ 2 := ⟨(x.toInt - 1).toNat, by omega, by omega⟩
    rw [hj] at ho
    rcases (show j = 0 ∨ j = 1 ∨ j = 2 by omega) with rfl | rfl | rfl
    · have ho2 : o = 28 := (Option.some.inj ho).symm
      have ht2 : t = 48 := by omega
      subst ht2
      rw [if_neg (by decide)]
      simp only [BmLi_valueOf, EV, EW, ev_o, ev_is, ev_gd, Nat.reduceLT, Nat.reduceAdd, Nat.reduceEqDiff, Nat.reduceLeDiff, reduceIte, true_and, and_true, true_or, or_true]
      exact back _ _
    · have ho2 : o = 45 := (Option.some.inj ho).symm
      have ht2 : t = 65 := by omega
      subst ht2
      rw [if_neg (by decide)]
      simp only [BmLi_valueOf, EV, EW, ev_o, ev_is, ev_gd, Nat.reduceLT, Nat.reduceAdd, Nat.reduceEqDiff, Nat.reduceLeDiff, reduceIte, true_and, and_true, true_or, or_true]
      exact back _ _
    · have ho2 : o = 52 := (Option.some.inj ho).symm
      have ht2 : t = 72 := by omega
      subst ht2
      rw [if_neg (by decide)]
      simp only [BmLi_valueOf, EV, EW, ev_o, ev_is, ev_gd, Nat.reduceLT, Nat.reduceAdd, Nat.reduceEqDiff, Nat.reduceLeDiff, reduceIte, true_and, and_true, true_or, or_true]
      exact ⟨fun _ => back _ _, fun _ => back _ _⟩
set_option maxHeartbeats 4000000 in
theorem w_Li_valueOf {w : cx_W} (p pn pb : Int32) {dd : Nat} : cx_MC mLi_valueOf (dd + 1) 0 0 [.int p, .int pn, .int pb] w 87 (fun r w2 => (∃ x, r = some (.int x)) ∧ w2 = w) := by
  refine cx_met 60 mLi_valueOf_ok rfl ?_
  show cx_vc 60 none mLi_valueOf (dd + 1) 0 0 _ _ 0 [some (.int p), some (.int pn), some (.int pb), none, none, none] [] w (87, 0, 0)
  simp only [BmLi_valueOf, EV, EW, ev_o, ev_is, ev_gd, Nat.reduceLT, Nat.reduceAdd, Nat.reduceEqDiff, Nat.reduceLeDiff, reduceIte, true_and, and_true, true_or, or_true]
  exact vo_loop 7 0 pn (by omega)
set_option maxHeartbeats 4000000 in
theorem to_loop {w : cx_W} {p pn : Int32} {dd : Nat} : ∀ (m i : Nat) (tb : Int32), ((1 : Int32) <<< (pn &&& 31)).toInt ≤ i + m → i + m < 2 ^ 31 →
    cx_OK none mLi_tableOf (dd + 2) 0 0 (fun r w2 _ => (∃ x, r = some (.int x)) ∧ w2 = w) 4 [some (.int p), some (.int pn), some (.int tb), some (.int (nI i))] [] w (87, 0, 0) := by
  intro m
  induction m with
  | zero =>
    intro i tb hk hb
    refine cx_run 60 mLi_tableOf_mo ?_
    have hle : (1 : Int32) <<< (pn &&& 31) ≤ nI i := Int32.le_iff_toInt_le.mpr (by rw [nI_toInt (by omega)]; omega)
    simp only [BmLi_tableOf, hle, not_true_eq_false, false_imp_iff, true_imp_iff, EV, EW, ev_o, ev_is, ev_gd, Nat.reduceLT, Nat.reduceAdd, Nat.reduceEqDiff, Nat.reduceLeDiff, reduceIte, true_and, and_true, true_or, or_true]
    exact ⟨_, rfl⟩
  | succ m ih =>
    intro i tb hk hb
    refine cx_run 60 mLi_tableOf_mo ?_
    simp only [BmLi_tableOf, EV, EW, ev_o, ev_is, ev_gd, Nat.reduceLT, Nat.reduceAdd, Nat.reduceEqDiff, Nat.reduceLeDiff, reduceIte, true_and, and_true, true_or, or_true]
    refine ⟨fun _ => ⟨_, rfl⟩, fun hlt => ?_⟩
    refine cx_cs1 (dd + 1) 0 0 ⟨Nat.le_refl _, by show 8 + (6 + 11) + 40 * (dd + 1) ≤ 40 * (dd + 2); omega, Nat.le_refl _, Nat.le_refl _⟩ (w_Li_valueOf p pn (nI i)) fun r w2 h2 => ?_
    obtain ⟨⟨x, rfl⟩, rfl⟩ := h2
    simp only [BmLi_tableOf, nI_1, EV, EW, ev_o, ev_is, ev_gd, Nat.reduceLT, Nat.reduceAdd, Nat.reduceEqDiff, Nat.reduceLeDiff, reduceIte, true_and, and_true, true_or, or_true]
    exact ih (i + 1) _ (by omega) (by omega)
set_option maxHeartbeats 4000000 in
theorem w_Li_tableOf {w : cx_W} (p pn : Int32) {dd : Nat} : cx_MC mLi_tableOf (dd + 2) 0 0 [.int p, .int pn] w 87 (fun r w2 => (∃ x, r = some (.int x)) ∧ w2 = w) := by
  refine cx_met 60 mLi_tableOf_ok rfl ?_
  show cx_vc 60 none mLi_tableOf (dd + 2) 0 0 _ _ 0 [some (.int p), some (.int pn), none, none] [] w (87, 0, 0)
  simp only [BmLi_tableOf, EV, EW, ev_o, ev_is, ev_gd, Nat.reduceLT, Nat.reduceAdd, Nat.reduceEqDiff, Nat.reduceLeDiff, reduceIte, true_and, and_true, true_or, or_true]
  refine to_loop (2 ^ 31 - 1) 0 0 ?_ (by decide)
  have := Int32.toInt_lt ((1 : Int32) <<< (pn &&& 31))
  omega
/-- what a first cell answers -/
def cell0 (p a d : Int32) : Int32 := if pat p = true ∧ ¬ a < 1 ∧ ¬ 1000 < a ∧ ¬ d < 0 ∧ ¬ 1000 < d then 0 else -1
