/-! The cells' numbers: pins, NANDs, tables. Own work. -/
set_option maxHeartbeats 4000000 in
theorem cds_loop {w : cx_W} {q dg : Nat} {x : Int32} {dd : Nat} (hx : x = nI dg) (hq : q < 16384) (hd : dg < 4) : ∀ (m k : Nat), k + m = 7 →
    cx_OK none mLi_countDigits (dd + 1) 0 0 (fun r w2 _ => r = some (.int (nI (cdg q dg 7))) ∧ w2 = w) 4 [some (.int (nI q)), some (.int x), some (.int (nI (cdg q dg k))), some (.int (nI k))] [] w (87, 0, 0) := by
  intro m
  induction m with
  | zero =>
    intro k hk
    have h7 : k = 7 := by omega
    subst h7
    refine cx_run 60 mLi_countDigits_mo ?_
    simp only [BmLi_countDigits, BmLi_digitOf, le7 (k := 7) (by decide), Nat.le_refl, EV, EW, CT, ev_o, ev_is, ev_gd, List.length_cons, List.length_nil, Nat.reduceLT, Nat.reduceAdd, Nat.reduceEqDiff, Nat.reduceLeDiff, Int32.reduceLT, Int32.reduceLE, reduceIte, true_and, and_true, true_or, or_true, not_true_eq_false, not_false_eq_true, false_imp_iff, true_imp_iff, implies_true]
  | succ m ih =>
    intro k hk
    refine cx_run 60 mLi_countDigits_mo ?_
    have hlt : ¬ 7 ≤ k := by omega
    have e := dgtI (q := q) (k := k) (by omega) (by omega)
    have nx := ih (k + 1) (by omega)
    have hl := dgt_lt q k
    by_cases h : dgt q k = dg
    · have E : (nI (dgt q k) = x) = True := eq_true (by rw [hx, h])
      have e2 : cdg q dg (k + 1) = cdg q dg k + 1 := by rw [cdg, if_pos h]
      rw [e2] at nx
      simp only [BmLi_countDigits, BmLi_digitOf, le7 (k := k) (by omega), hlt, e, E, nI_1, EV, EW, CT, ev_o, ev_is, ev_gd, List.length_cons, List.length_nil, Nat.reduceLT, Nat.reduceAdd, Nat.reduceEqDiff, Nat.reduceLeDiff, Int32.reduceLT, Int32.reduceLE, reduceIte, true_and, and_true, true_or, or_true, not_true_eq_false, not_false_eq_true, false_imp_iff, true_imp_iff, implies_true]
      exact nx
    · have E : (nI (dgt q k) = x) = False := eq_false (by rw [hx, nI_eq (by omega) (by omega)]; exact h)
      have e2 : cdg q dg (k + 1) = cdg q dg k := by rw [cdg, if_neg h]; rfl
      rw [e2] at nx
      simp only [BmLi_countDigits, BmLi_digitOf, le7 (k := k) (by omega), hlt, e, E, nI_1, EV, EW, CT, ev_o, ev_is, ev_gd, List.length_cons, List.length_nil, Nat.reduceLT, Nat.reduceAdd, Nat.reduceEqDiff, Nat.reduceLeDiff, Int32.reduceLT, Int32.reduceLE, reduceIte, true_and, and_true, true_or, or_true, not_true_eq_false, not_false_eq_true, false_imp_iff, true_imp_iff, implies_true]
      exact nx
set_option maxHeartbeats 4000000 in
theorem c_Li_countDigits {w : cx_W} {q dg : Nat} {x : Int32} {dd : Nat} (hx : x = nI dg) (hq : q < 16384) (hd : dg < 4) : cx_MC mLi_countDigits (dd + 1) 0 0 [.int (nI q), .int x] w 87 (fun r w2 => r = some (.int (nI (cdg q dg 7))) ∧ w2 = w) := by
  refine cx_met 60 mLi_countDigits_ok rfl ?_
  show cx_vc 60 none mLi_countDigits (dd + 1) 0 0 _ _ 0 [some (.int (nI q)), some (.int x), none, none] [] w (87, 0, 0)
  simp only [BmLi_countDigits, EV, EW, CT, ev_o, ev_is, ev_gd, List.length_cons, List.length_nil, Nat.reduceLT, Nat.reduceAdd, Nat.reduceEqDiff, Nat.reduceLeDiff, Int32.reduceLT, Int32.reduceLE, reduceIte, true_and, and_true, true_or, or_true, not_true_eq_false, not_false_eq_true, false_imp_iff, true_imp_iff, implies_true]
  exact cds_loop hx hq hd 7 0 rfl
/-- what is decided of a pattern, place by place -/
theorem pat_at {q bits i : Nat} (hq : q ∈ pats) (hb : bits < 16) (hi : i < 7) : (voF q bits i).1 < 128 ∧ (voF q bits i).2 ≤ 4 ∧ (wkF q bits i).2 = (voF q bits i).2 ∧ (wkF q bits i).1.length ≤ 7 ∧ (∀ x, x ∈ (wkF q bits i).1 → x ≤ 1) ∧
    (dgt q (6 - i) = 1 → 1 ≤ (voF q bits i).2) ∧ (dgt q (6 - i) = 2 → 1 ≤ (wkF q bits i).1.length) ∧ (dgt q (6 - i) = 3 → 2 ≤ (wkF q bits i).1.length) := by
  have h := List.all_eq_true.mp pats_ok q hq
  unfold patOk at h
  rw [Bool.and_eq_true] at h
  have h2 := List.all_eq_true.mp h.2 bits (List.mem_range.mpr hb)
  rw [Bool.and_eq_true] at h2
  have h3 := List.all_eq_true.mp h2.2 i (List.mem_range.mpr hi)
  simp only [Bool.and_eq_true, decide_eq_true_eq, List.all_eq_true] at h3
  obtain ⟨⟨⟨⟨⟨⟨⟨a, b⟩, c⟩, d⟩, e⟩, f⟩, g⟩, k⟩ := h3
  exact ⟨a, b, c, d, e, f, g, k⟩
theorem pat_all {q bits : Nat} (hq : q ∈ pats) (hb : bits < 16) : valP q bits = wkP q bits ∧ (wkF q bits 7).1.length = 1 ∧ wkP q bits ≤ 1 ∧ (voF q bits 7).1 < 2 := by
  have h := List.all_eq_true.mp pats_ok q hq
  unfold patOk at h
  rw [Bool.and_eq_true] at h
  have h2 := List.all_eq_true.mp h.2 bits (List.mem_range.mpr hb)
  rw [Bool.and_eq_true] at h2
  have h3 := h2.1
  simp only [Bool.and_eq_true, decide_eq_true_eq] at h3
  obtain ⟨⟨⟨a, b⟩, c⟩, d⟩ := h3
  exact ⟨a, b, c, d⟩
theorem pat_num {q : Nat} (hq : q ∈ pats) : 1 ≤ pinsP q ∧ pinsP q ≤ 4 ∧ nandsP q ≤ 3 ∧ cdr 1 17 q = pinsP q ∧ cdr 3 17 q = nandsP q ∧ pinsP q = nandsP q + 1 := by
  have h := List.all_eq_true.mp pats_ok q hq
  unfold patOk at h
  rw [Bool.and_eq_true] at h
  have h3 := h.1
  simp only [Bool.and_eq_true, decide_eq_true_eq] at h3
  obtain ⟨⟨⟨⟨⟨a, b⟩, c⟩, d⟩, e⟩, f⟩ := h3
  exact ⟨a, b, c, d, e, f⟩
theorem pats_lt {q : Nat} (hq : q ∈ pats) : q < 16384 := by
  have h : pats.all (fun q => decide (q < 16384)) = true := by decide +kernel
  exact of_decide_eq_true (List.all_eq_true.mp h q hq)
theorem valP_lt (q bits : Nat) : valP q bits < 2 := Nat.mod_lt _ (by decide)
theorem tabP_lt (q k : Nat) : tabP q k < 2 ^ k := by
  induction k with
  | zero => simp [tabP]
  | succ k ih =>
    have := valP_lt q k
    have h : valP q k * 2 ^ k ≤ 1 * 2 ^ k := Nat.mul_le_mul_right _ (by omega)
    simp only [tabP, Nat.pow_succ]
    omega
theorem pat_tab {q k : Nat} (hq : q ∈ pats) (hk : k < 2 ^ pinsP q) : tabP q (2 ^ pinsP q) / 2 ^ k % 2 = valP q k := by
  have hp := (pat_num hq).2.1
  have h16 : k < 16 := Nat.lt_of_lt_of_le hk (show 2 ^ pinsP q ≤ 2 ^ 4 from Nat.pow_le_pow_right (by decide) hp)
  have h := List.all_eq_true.mp (List.all_eq_true.mp pats_tab q hq) k (List.mem_range.mpr h16)
  exact of_decide_eq_true h hk
