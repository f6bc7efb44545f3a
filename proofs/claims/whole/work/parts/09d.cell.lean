/-! The class's patterns and a first cell. Own work. -/
theorem mu2 (k : Nat) : 2 * nI k = nI (2 * k) := (Int32.ofNat_mul 2 k).symm
theorem sm2 : ∀ k, k < 8 → ((nI (2 * k) &&& 31).toBitVec.smod 32).toNat = 2 * k := by decide +kernel
theorem srk {q k : Nat} (hq : q < 2 ^ 31) (hk : k < 8) : nI q >>> (2 * nI k &&& 31) = nI (q / 4 ^ k) := by
  rw [mu2, pk_shrN hq _ (2 * k) (sm2 k hk), Nat.pow_mul]
theorem le7 {k : Nat} (h : k < 2 ^ 31) : ((7 : Int32) ≤ nI k) = (7 ≤ k) := propext (nI_leI (a := 7) (by decide) h)
theorem pt_d {f o : Nat} : pt (f + 1) 0 o = (o == 0) := rfl
theorem pt_s {f d o : Nat} (h : ¬ d = 0) : pt (f + 1) d o = if d % 4 = 0 ∨ o = 0 then false else pt f (d / 4) (o + d % 4 - 2) := by
  show (if d = 0 then _ else _) = _
  rw [if_neg h]
theorem sb2i {x : Nat} (h : 1 ≤ x) {o : Nat} (ho : 1 ≤ o) : nI o + (nI x - 2) = nI (o + x - 2) := by
  rw [show nI o + (nI x - 2) = nI o + nI x - 2 from by rw [Int32.sub_eq_add_neg, Int32.sub_eq_add_neg, Int32.add_assoc], nI_add, sb2 (by omega)]
set_option maxHeartbeats 4000000 in
theorem pat_loop_C {w : cx_W} {q : Nat} {dd : Nat} (hq : q < 16384) : ∀ (m k o : Nat) (l3 : Option Value), k + m = 7 → o ≤ k + 1 →
    cx_OK none mLi_isPattern (dd + 1) 0 0 (fun r w2 _ => r = some (.int (if pt (10 + m) (q / 4 ^ k) o = true then 1 else 0)) ∧ w2 = w) 26 [some (.int (nI q)), some (.int (nI o)), some (.int (nI k)), l3] [] w (87, 0, 0) := by
  intro m
  induction m with
  | zero =>
    intro k o l3 hk ho
    have h7 : k = 7 := by omega
    subst h7
    refine cx_run 60 mLi_isPattern_mo ?_
    have e : q / 4 ^ 7 = 0 := by show q / 16384 = 0; omega
    simp only [BmLi_isPattern, BmLi_digitOf, le7 (k := 7) (by decide), z0 (d := o) (by omega), e, pt_d, not_true_eq_false, false_imp_iff, true_imp_iff, EV, EW, ev_o, ev_is, ev_gd, Nat.reduceLT, Nat.reduceAdd, Nat.reduceEqDiff, Nat.reduceLeDiff, reduceIte, true_and, and_true, true_or, or_true]
    refine ⟨fun a => ?_, fun a => ?_⟩
    · simp [a]
    · simp [a]
  | succ m ih =>
    intro k o l3 hk ho
    refine cx_run 60 mLi_isPattern_mo ?_
    have hlt : ¬ 7 ≤ k := by omega
    have hb : q / 4 ^ k < 2 ^ 31 := Nat.lt_of_le_of_lt (Nat.div_le_self _ _) (by omega)
    simp only [BmLi_isPattern, BmLi_digitOf, le7 (k := k) (by omega), hlt, srk (q := q) (k := k) (by omega) (by omega), an3, z0 hb, z0 (d := o) (by omega), z0 (d := q / 4 ^ k % 4) (by omega), not_true_eq_false, not_false_eq_true, false_imp_iff, true_imp_iff, nI_1, EV, EW, ev_o, ev_is, ev_gd, Nat.reduceLT, Nat.reduceAdd, Nat.reduceEqDiff, Nat.reduceLeDiff, reduceIte, true_and, and_true, true_or, or_true]
    refine ⟨fun h0 => ?_, fun h0 => ⟨fun a => ?_, fun a => ⟨fun b => ?_, fun b => ?_⟩⟩⟩
    · rw [h0, show 10 + (m + 1) = (10 + m) + 1 from rfl, pt_d]
      refine ⟨fun a => ?_, fun a => ?_⟩
      · simp [a]
      · simp [a]
    · rw [show 10 + (m + 1) = (10 + m) + 1 from rfl, pt_s h0, if_pos (Or.inr a)]; rfl
    · rw [show 10 + (m + 1) = (10 + m) + 1 from rfl, pt_s h0, if_pos (Or.inl b)]; rfl
    · have e : pt (10 + (m + 1)) (q / 4 ^ k) o = pt (10 + m) (q / 4 ^ (k + 1)) (o + q / 4 ^ k % 4 - 2) := by
        rw [show 10 + (m + 1) = (10 + m) + 1 from rfl, pt_s h0, if_neg (fun z : q / 4 ^ k % 4 = 0 ∨ o = 0 => z.elim b a), Nat.div_div_eq_div_mul, ← Nat.pow_succ]
      rw [e, sb2i (by omega) (by omega)]
      exact ih (k + 1) _ _ (by omega) (by omega)
set_option maxHeartbeats 4000000 in
theorem c_Li_isPattern {w : cx_W} (p : Int32) {dd : Nat} : cx_MC mLi_isPattern (dd + 1) 0 0 [.int p] w 87 (fun r w2 => r = some (.int (if pat p = true then 1 else 0)) ∧ w2 = w) := by
  refine cx_met 60 mLi_isPattern_ok rfl ?_
  show cx_vc 60 none mLi_isPattern (dd + 1) 0 0 _ _ 0 [some (.int p), none, none, none] [] w (87, 0, 0)
  by_cases hp : p ≤ 0
  · have hp2 : p.toInt ≤ 0 := by have := Int32.le_iff_toInt_le.mp hp; simpa using this
    have hf : pat p = false := by
      unfold pat
      simp [show ¬ 0 < p.toInt by omega]
    simp only [BmLi_isPattern, hp, hf, not_true_eq_false, false_imp_iff, true_imp_iff, Bool.false_eq_true, EV, EW, ev_o, ev_is, ev_gd, Nat.reduceLT, Nat.reduceAdd, Nat.reduceEqDiff, Nat.reduceLeDiff, reduceIte, true_and, and_true, true_or, or_true]
  · obtain ⟨q, hq, rfl⟩ : ∃ q : Nat, q < 2 ^ 31 ∧ p = nI q := nI_of (fun h => hp (Int32.le_of_lt h))
    have hq0 : 0 < q := by
      rcases Nat.eq_zero_or_pos q with h | h
      · subst h; exact absurd (by rw [nI_0]; decide) hp
      · exact h
    have hti := nI_toInt hq
    have e14 : ((16384 : Int32) ≤ nI q) = (16384 ≤ q) := propext (nI_leI (a := 16384) (by decide) hq)
    have e0 : nI q >>> (2 * 0 &&& 31) = nI q := by
      have := srk (q := q) (k := 0) hq (by decide)
      simpa [nI_0] using this
    have h1 : (nI (q % 4) = 1) = (q % 4 = 1) := propext (nI_eq (b := 1) (by omega) (by decide))
    simp only [BmLi_isPattern, BmLi_digitOf, hp, e14, e0, an3, h1, not_false_eq_true, false_imp_iff, true_imp_iff, EV, EW, ev_o, ev_is, ev_gd, Nat.reduceLT, Nat.reduceAdd, Nat.reduceEqDiff, Nat.reduceLeDiff, reduceIte, true_and, and_true, true_or, or_true]
    refine ⟨fun a => ?_, fun a => ⟨fun b => ?_, fun b => ?_⟩⟩
    · have hf : pat (nI q) = false := by
        unfold pat
        simp [hti, show ¬ (q : Int) < 16384 by omega]
      rw [hf]; rfl
    · have hf : pat (nI q) = false := by
        unfold pat
        simp [hti, show (q : Int) % 4 = 1 by omega]
      rw [hf]; rfl
    · have key : pat (nI q) = pt (10 + 7) (q / 4 ^ 0) 1 := by
        unfold pat
        rw [hti, Nat.pow_zero, Nat.div_one]
        simp [show (q : Int) < 16384 by omega, show ¬ (q : Int) % 4 = 1 by omega, hq0]
      rw [key]
      exact pat_loop_C (by omega) 7 0 1 _ rfl (by omega)
