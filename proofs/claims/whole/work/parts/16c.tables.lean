/-! The class's tables. Own work. -/
theorem vo1 {s b p : Nat} (hs : s < 128) (hb : b < 16) (hp : p < 5) : nI s <<< (1 &&& 31) ||| nI b >>> (nI p &&& 31) &&& 1 = nI (2 * s + b / 2 ^ p % 2) := by
  rw [bitN (by omega) (by omega), show nI s <<< (1 &&& 31) = nI (s * 2 ^ 1) from pk_shlN _ 1 (by decide) (by omega), or_add s 1 (by omega), Nat.mul_comm]
theorem vo2 (s : Nat) : nI s ^^^ 1 = nI (s ^^^ 1) := nx_xor s 1
theorem vo3 {s c : Nat} (hs : s < 128) (hc : c < 2) : nI s >>> (2 &&& 31) <<< (1 &&& 31) ||| nI c = nI (s / 4 * 2 + c) := by
  rw [sr2 (by omega), show nI (s / 4) <<< (1 &&& 31) = nI (s / 4 * 2 ^ 1) from pk_shlN _ 1 (by decide) (by omega), or_add (s / 4) 1 (by omega)]
set_option maxHeartbeats 4000000 in
theorem vos_loop {w : cx_W} {q bits : Nat} {pn : Int32} {dd : Nat} (hq : q ∈ pats) (hb : bits < 16) : ∀ (m i : Nat), i + m = 7 →
    cx_OK none mLi_valueOf (dd + 1) 0 0 (fun r w2 _ => r = some (.int (nI (valP q bits))) ∧ w2 = w) 9 [some (.int (nI q)), some (.int pn), some (.int (nI bits)), some (.int (nI (voF q bits i).1)), some (.int (nI (voF q bits i).2)), some (.int (nI m - 1))] [] w (87, 0, 0) := by
  have hq2 := pats_lt hq
  intro m
  induction m with
  | zero =>
    intro i hi
    have h7 : i = 7 := by omega
    subst h7
    refine cx_run 60 mLi_valueOf_mo ?_
    simp (decide := true) only [BmLi_valueOf, BmLi_digitOf, nI_0, an1, EV, EW, CT, ev_o, ev_is, ev_gd, List.length_cons, List.length_nil, Nat.reduceLT, Nat.reduceAdd, Nat.reduceEqDiff, Nat.reduceLeDiff, Int32.reduceLT, Int32.reduceLE, reduceIte, true_and, and_true, true_or, or_true, not_true_eq_false, not_false_eq_true, false_imp_iff, true_imp_iff, implies_true]
    rfl
  | succ m ih =>
    intro i hi
    have hm : m = 6 - i := by omega
    refine cx_run 60 mLi_valueOf_mo ?_
    rw [nI_pred]
    have hlt : ¬ nI m < 0 := nI_pos (by omega)
    have e := dgtI (q := q) (k := m) (by omega) (by omega)
    have nx := ih (i + 1) (by omega)
    rw [Int32.sub_eq_add_neg] at nx
    have ⟨s1, s2, _, _, _, s6, _, _⟩ := pat_at hq hb (show i < 7 by omega)
    rw [voF, ← hm] at nx
    rw [← hm] at s6
    have hl := dgt_lt q m
    simp only [BmLi_valueOf, BmLi_digitOf, hlt, e, EV, EW, CT, ev_o, ev_is, ev_gd, List.length_cons, List.length_nil, Nat.reduceLT, Nat.reduceAdd, Nat.reduceEqDiff, Nat.reduceLeDiff, Int32.reduceLT, Int32.reduceLE, reduceIte, true_and, and_true, true_or, or_true, not_true_eq_false, not_false_eq_true, false_imp_iff, true_imp_iff, implies_true]
    refine ⟨fun h => ?_, fun o t q1 q2 ho ht => ?_⟩
    · have d0 : dgt q m = 0 := by
        rw [nI_toInt (by omega)] at h
        omega
      rw [if_neg (by omega), if_neg (by omega), if_neg (by omega)] at nx
      exact nx
    · rw [nI_toInt (by omega)] at q1 q2 ho
      obtain ⟨j, hj, hj3⟩ : ∃ j : Nat, dgt q m = j + 1 ∧ j ≤ 2 := ⟨dgt q m - 1, by omega, by omega⟩
      rw [hj] at ho
      rcases (show j = 0 ∨ j = 1 ∨ j = 2 by omega) with rfl | rfl | rfl
      · have ho2 : o = 28 := (Option.some.inj ho).symm
        have ht2 : t = 48 := by omega
        subst ht2
        rw [if_neg (by decide)]
        have hp := s6 hj
        rw [if_pos hj] at nx
        obtain ⟨p, hp2⟩ : ∃ p, (voF q bits i).2 = p + 1 := ⟨(voF q bits i).2 - 1, by omega⟩
        rw [hp2, Nat.add_sub_cancel] at nx
        rw [hp2]
        simp only [BmLi_valueOf, pk_m1, vo1 s1 hb (show p < 5 by omega), EV, EW, CT, ev_o, ev_is, ev_gd, List.length_cons, List.length_nil, Nat.reduceLT, Nat.reduceAdd, Nat.reduceEqDiff, Nat.reduceLeDiff, Int32.reduceLT, Int32.reduceLE, reduceIte, true_and, and_true, true_or, or_true, not_true_eq_false, not_false_eq_true, false_imp_iff, true_imp_iff, implies_true]
        exact nx
      · have ho2 : o = 45 := (Option.some.inj ho).symm
        have ht2 : t = 65 := by omega
        subst ht2
        rw [if_neg (by decide)]
        rw [if_neg (by omega), if_pos hj] at nx
        simp only [BmLi_valueOf, vo2, EV, EW, CT, ev_o, ev_is, ev_gd, List.length_cons, List.length_nil, Nat.reduceLT, Nat.reduceAdd, Nat.reduceEqDiff, Nat.reduceLeDiff, Int32.reduceLT, Int32.reduceLE, reduceIte, true_and, and_true, true_or, or_true, not_true_eq_false, not_false_eq_true, false_imp_iff, true_imp_iff, implies_true]
        exact nx
      · have ho2 : o = 52 := (Option.some.inj ho).symm
        have ht2 : t = 72 := by omega
        subst ht2
        rw [if_neg (by decide)]
        rw [if_neg (by omega), if_neg (by omega), if_pos hj] at nx
        by_cases h3 : (voF q bits i).1 % 4 = 3
        · have E : (nI ((voF q bits i).1 % 4) = 3) = True := eq_true (by rw [h3]; rfl)
          rw [if_pos h3] at nx
          have v : nI (voF q bits i).1 >>> (2 &&& 31) <<< (1 &&& 31) ||| 0 = nI ((voF q bits i).1 / 4 * 2 + 0) := vo3 (c := 0) s1 (by decide)
          simp only [BmLi_valueOf, an3, E, v, EV, EW, CT, ev_o, ev_is, ev_gd, List.length_cons, List.length_nil, Nat.reduceLT, Nat.reduceAdd, Nat.reduceEqDiff, Nat.reduceLeDiff, Int32.reduceLT, Int32.reduceLE, reduceIte, true_and, and_true, true_or, or_true, not_true_eq_false, not_false_eq_true, false_imp_iff, true_imp_iff, implies_true]
          exact nx
        · have E : (nI ((voF q bits i).1 % 4) = 3) = False := eq_false (by
            intro h; exact h3 ((nI_eq (b := 3) (by omega) (by decide)).mp h))
          rw [if_neg h3] at nx
          have v : nI (voF q bits i).1 >>> (2 &&& 31) <<< (1 &&& 31) ||| 1 = nI ((voF q bits i).1 / 4 * 2 + 1) := vo3 (c := 1) s1 (by decide)
          simp only [BmLi_valueOf, an3, E, v, EV, EW, CT, ev_o, ev_is, ev_gd, List.length_cons, List.length_nil, Nat.reduceLT, Nat.reduceAdd, Nat.reduceEqDiff, Nat.reduceLeDiff, Int32.reduceLT, Int32.reduceLE, reduceIte, true_and, and_true, true_or, or_true, not_true_eq_false, not_false_eq_true, false_imp_iff, true_imp_iff, implies_true]
          exact nx
set_option maxHeartbeats 4000000 in
theorem c_Li_valueOf {w : cx_W} {q bits : Nat} {dd : Nat} (hq : q ∈ pats) (hb : bits < 16) : cx_MC mLi_valueOf (dd + 1) 0 0 [.int (nI q), .int (nI (pinsP q)), .int (nI bits)] w 87 (fun r w2 => r = some (.int (nI (valP q bits))) ∧ w2 = w) := by
  refine cx_met 60 mLi_valueOf_ok rfl ?_
  show cx_vc 60 none mLi_valueOf (dd + 1) 0 0 _ _ 0 [some (.int (nI q)), some (.int (nI (pinsP q))), some (.int (nI bits)), none, none, none] [] w (87, 0, 0)
  simp only [BmLi_valueOf, EV, EW, CT, ev_o, ev_is, ev_gd, List.length_cons, List.length_nil, Nat.reduceLT, Nat.reduceAdd, Nat.reduceEqDiff, Nat.reduceLeDiff, Int32.reduceLT, Int32.reduceLE, reduceIte, true_and, and_true, true_or, or_true, not_true_eq_false, not_false_eq_true, false_imp_iff, true_imp_iff, implies_true]
  exact vos_loop hq hb 7 0 rfl
set_option maxHeartbeats 4000000 in
theorem tos_loop {w : cx_W} {q : Nat} {dd : Nat} (hq : q ∈ pats) : ∀ (m i : Nat), i + m = 2 ^ pinsP q →
    cx_OK none mLi_tableOf (dd + 2) 0 0 (fun r w2 _ => r = some (.int (nI (tabP q (2 ^ pinsP q)))) ∧ w2 = w) 4 [some (.int (nI q)), some (.int (nI (pinsP q))), some (.int (nI (tabP q i))), some (.int (nI i))] [] w (87, 0, 0) := by
  have hp := (pat_num hq).2.1
  have h16 : 2 ^ pinsP q ≤ 2 ^ 4 := Nat.pow_le_pow_right (by decide) hp
  have es : (1 : Int32) <<< (nI (pinsP q) &&& 31) = nI (2 ^ pinsP q) := by
    have := shlN (a := 1) (k := pinsP q) (by omega) (by omega)
    rw [Nat.one_mul] at this
    exact this
  intro m
  induction m with
  | zero =>
    intro i hi
    have h7 : i = 2 ^ pinsP q := by omega
    subst h7
    refine cx_run 60 mLi_tableOf_mo ?_
    simp only [BmLi_tableOf, es, Int32.le_refl, EV, EW, CT, ev_o, ev_is, ev_gd, List.length_cons, List.length_nil, Nat.reduceLT, Nat.reduceAdd, Nat.reduceEqDiff, Nat.reduceLeDiff, Int32.reduceLT, Int32.reduceLE, reduceIte, true_and, and_true, true_or, or_true, not_true_eq_false, not_false_eq_true, false_imp_iff, true_imp_iff, implies_true]
  | succ m ih =>
    intro i hi
    refine cx_run 60 mLi_tableOf_mo ?_
    have E : (nI (2 ^ pinsP q) ≤ nI i) = False := eq_false (by rw [nI_leI (by omega) (by omega)]; omega)
    simp only [BmLi_tableOf, es, E, EV, EW, CT, ev_o, ev_is, ev_gd, List.length_cons, List.length_nil, Nat.reduceLT, Nat.reduceAdd, Nat.reduceEqDiff, Nat.reduceLeDiff, Int32.reduceLT, Int32.reduceLE, reduceIte, true_and, and_true, true_or, or_true, not_true_eq_false, not_false_eq_true, false_imp_iff, true_imp_iff, implies_true]
    refine cx_cs1 (dd + 1) 0 0 ⟨Nat.le_refl _, by show 8 + (6 + 11) + 40 * (dd + 1) ≤ 40 * (dd + 2); omega, Nat.le_refl _, Nat.le_refl _⟩ (c_Li_valueOf hq (show i < 16 by omega)) fun r w2 h2 => ?_
    obtain ⟨rfl, rfl⟩ := h2
    have hv := valP_lt q i
    have ht := tabP_lt q i
    have hi15 : i < 16 := by omega
    have hpw : 2 ^ i ≤ 2 ^ 15 := Nat.pow_le_pow_right (by decide) (by omega)
    have hmul : valP q i * 2 ^ i ≤ 1 * 2 ^ i := Nat.mul_le_mul_right _ (by omega)
    have e2 : nI (tabP q i) ||| nI (valP q i) <<< (nI i &&& 31) = nI (tabP q (i + 1)) := by
      rw [shlN (by omega) (by omega), or_add' _ _ ht]; rfl
    simp only [BmLi_tableOf, nI_1, e2, EV, EW, CT, ev_o, ev_is, ev_gd, List.length_cons, List.length_nil, Nat.reduceLT, Nat.reduceAdd, Nat.reduceEqDiff, Nat.reduceLeDiff, Int32.reduceLT, Int32.reduceLE, reduceIte, true_and, and_true, true_or, or_true, not_true_eq_false, not_false_eq_true, false_imp_iff, true_imp_iff, implies_true]
    exact ih (i + 1) (by omega)
set_option maxHeartbeats 4000000 in
theorem c_Li_tableOf {w : cx_W} {q : Nat} {dd : Nat} (hq : q ∈ pats) : cx_MC mLi_tableOf (dd + 2) 0 0 [.int (nI q), .int (nI (pinsP q))] w 87 (fun r w2 => r = some (.int (nI (tabP q (2 ^ pinsP q)))) ∧ w2 = w) := by
  refine cx_met 60 mLi_tableOf_ok rfl ?_
  show cx_vc 60 none mLi_tableOf (dd + 2) 0 0 _ _ 0 [some (.int (nI q)), some (.int (nI (pinsP q))), none, none] [] w (87, 0, 0)
  simp only [BmLi_tableOf, EV, EW, CT, ev_o, ev_is, ev_gd, List.length_cons, List.length_nil, Nat.reduceLT, Nat.reduceAdd, Nat.reduceEqDiff, Nat.reduceLeDiff, Int32.reduceLT, Int32.reduceLE, reduceIte, true_and, and_true, true_or, or_true, not_true_eq_false, not_false_eq_true, false_imp_iff, true_imp_iff, implies_true]
  exact tos_loop hq _ 0 (Nat.zero_add _)
