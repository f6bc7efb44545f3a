/-! The law's walk, out of what each pair of calls does. Printed by gen_law.py. -/
def PairI (a b : Nat) (as : List Value) (w : cx_W) (J : cx_W → Prop) : Prop := cx_ci (w 0) = some 0 ∧ ∃ Q1 : Option Value → cx_W → Prop, cx_MC (cx_m a) 12 0 0 (.ref 0 :: as) w 87 Q1 ∧ ∀ r w2, Q1 r w2 → cx_ci (w2 45) = some 8 ∧ ∃ (x : Int32) (Q2 : Option Value → cx_W → Prop), r = some (.int x) ∧ cx_MC (cx_m b) 12 0 0 (.ref 45 :: as) w2 87 Q2 ∧ ∀ r2 w3, Q2 r2 w3 → r2 = some (.int x) ∧ J w3
def PairL (a b : Nat) (as : List Value) (w : cx_W) (J : cx_W → Prop) : Prop := cx_ci (w 0) = some 0 ∧ ∃ Q1 : Option Value → cx_W → Prop, cx_MC (cx_m a) 12 0 0 (.ref 0 :: as) w 87 Q1 ∧ ∀ r w2, Q1 r w2 → cx_ci (w2 45) = some 8 ∧ ∃ (x : Int64) (Q2 : Option Value → cx_W → Prop), r = some (.long x) ∧ cx_MC (cx_m b) 12 0 0 (.ref 45 :: as) w2 87 Q2 ∧ ∀ r2 w3, Q2 r2 w3 → r2 = some (.long x) ∧ J w3
def PairV (a b : Nat) (as : List Value) (w : cx_W) (J : cx_W → Prop) : Prop := cx_ci (w 0) = some 0 ∧ ∃ Q1 : Option Value → cx_W → Prop, cx_MC (cx_m a) 12 0 0 (.ref 0 :: as) w 87 Q1 ∧ ∀ r w2, Q1 r w2 → cx_ci (w2 45) = some 8 ∧ ∃ Q2 : Option Value → cx_W → Prop, r = none ∧ cx_MC (cx_m b) 12 0 0 (.ref 45 :: as) w2 87 Q2 ∧ ∀ r2 w3, Q2 r2 w3 → r2 = none ∧ J w3
def Calls (w : cx_W) (J : cx_W → Prop) : Prop := (PairI 1 153 [] w J) ∧ (∀ a : Int32, PairI 2 154 [.int a] w J) ∧ (∀ a b c t : Int32, PairI 3 155 [.int a, .int b, .int c, .int t] w J) ∧ (∀ a b : Int32, PairI 4 156 [.int a, .int b] w J) ∧ (∀ a : Int32, PairI 5 157 [.int a] w J) ∧ (∀ a b c : Int32, PairI 6 159 [.int a, .int b, .int c] w J) ∧ (PairI 7 160 [] w J) ∧ (∀ a : Int32, PairI 8 161 [.int a] w J) ∧ (∀ a b : Int32, PairI 9 162 [.int a, .int b] w J) ∧ (PairI 10 187 [] w J) ∧ (PairI 11 188 [] w J) ∧ (∀ a : Int32, PairI 12 190 [.int a] w J) ∧ (PairI 13 191 [] w J) ∧ (PairI 14 192 [] w J) ∧ (∀ a : Int32, PairI 15 193 [.int a] w J) ∧ (∀ a b : Int32, PairL 16 194 [.int a, .int b] w J) ∧ (∀ a : Int32, PairI 17 196 [.int a] w J) ∧ (∀ a : Int32, PairI 18 200 [.int a] w J) ∧ (PairV 19 201 [] w J)
theorem lw_gt {L i : Nat} (hL : L ≤ 2560) (hi : i ≤ 2560) : (Int32.ofNat L - 5 < nI i) ↔ L < i + 5 := by
  rw [Int32.lt_iff_toInt_lt, Int32.toInt_sub, nI_toInt (by omega), show (Int32.ofNat L).toInt = (L : Int) from nI_toInt (n := L) (by omega), show (5 : Int32).toInt = 5 from rfl, Int.bmod_eq_of_le (by omega) (by omega)]
  omega
theorem lw_and (x : Int32) : 0 ≤ (x &&& 31).toInt ∧ (x &&& 31).toInt ≤ 31 := by
  have h : (x &&& 31).toBitVec = x.toBitVec &&& 31#32 := rfl
  have h2 : (x &&& 31).toBitVec.toNat ≤ 31 := by
    rw [h, BitVec.toNat_and]
    exact Nat.and_le_right
  have h3 : (x &&& 31).toInt = (x &&& 31).toBitVec.toInt := rfl
  rw [h3, BitVec.toInt_eq_toNat_of_lt (by omega)]
  omega
theorem lw_in {L i : Nat} (hL : L ≤ 2560) (h : i < L) : vp_in (nI i) L := nI_in h (by omega)
theorem lw_cmp (x : Int64) : lg_cmp x x = 0 := by simp [lg_cmp]
theorem lw_a1 (i : Nat) : nI i + 1 = nI (i + 1) := nI_add i 1
theorem lw_a2 (i : Nat) : nI i + 2 = nI (i + 2) := nI_add i 2
theorem lw_a3 (i : Nat) : nI i + 3 = nI (i + 3) := nI_add i 3
theorem lw_a4 (i : Nat) : nI i + 4 = nI (i + 4) := nI_add i 4
theorem lw_a5 (i : Nat) : nI i + 5 = nI (i + 5) := nI_add i 5
set_option maxHeartbeats 16000000 in
set_option maxRecDepth 100000 in
theorem law_loop {L ms zs : Nat} {xs : Nat → Int32} (hL : L ≤ 2560) (hz : zs ≤ ms) (I : Nat → cx_W → Prop) (hC : ∀ k w, 5 * k + 5 ≤ L → I k w → Calls w (I (k + 1))) (hD : ∀ k w, I k w → I (k + 1) w) : ∀ (m k : Nat) (w : cx_W), L ≤ 5 * k + m → 5 * k ≤ 2560 → I k w →
    cx_OK (some (L, xs)) mLaw_law 14 87 ms (fun r _ _ => r = some (.int 1)) 18 [some (.ref 1000000), some (.ref 0), some (.ref 45), some (.int (nI (5 * k)))] [] w (87, 87, zs) := by
  intro m
  induction m with
  | zero =>
    intro k w hm hk hI
    refine cx_run 20 mLaw_law_mo ?_
    simp only [lw_gt hL hk, hz, BmLaw_law, EV, EW, ev_o, ev_is, ev_gd, Nat.reduceLT, Nat.reduceAdd, Nat.reduceEqDiff, Nat.reduceLeDiff, reduceIte, true_and, and_true, or_true, true_or, lw_a1, lw_a2, lw_a3, lw_a4, lw_a5]
    exact ⟨fun _ => trivial, fun h => absurd (show L < 5 * k + 5 by omega) h⟩
  | succ m ih =>
    intro k w hm hk hI
    refine cx_run 60 mLaw_law_mo ?_
    by_cases hlt : L < 5 * k + 5
    · simp only [lw_gt hL hk, hlt, not_true_eq_false, false_imp_iff, hz, BmLaw_law, EV, EW, ev_o, ev_is, ev_gd, Nat.reduceLT, Nat.reduceAdd, Nat.reduceEqDiff, Nat.reduceLeDiff, reduceIte, true_and, and_true, or_true, true_or, lw_a1, lw_a2, lw_a3, lw_a4, lw_a5]
      exact fun _ => trivial
    · have back : ∀ w2, I (k + 1) w2 → cx_OK (some (L, xs)) mLaw_law 14 87 ms (fun r _ _ => r = some (.int 1)) 18 [some (.ref 1000000), some (.ref 0), some (.ref 45), some (.int (nI (5 * k + 5)))] [] w2 (87, 87, zs) := fun w2 h2 => ih (k + 1) w2 (by omega) (by omega) h2
      have i0 : vp_in (nI (5 * k)) L := lw_in hL (by omega)
      have i1 : vp_in (nI (5 * k + 1)) L := lw_in hL (by omega)
      have i2 : vp_in (nI (5 * k + 2)) L := lw_in hL (by omega)
      have i3 : vp_in (nI (5 * k + 3)) L := lw_in hL (by omega)
      have i4 : vp_in (nI (5 * k + 4)) L := lw_in hL (by omega)
      simp only [lw_gt hL hk, hlt, not_false_eq_true, false_imp_iff, true_imp_iff, i0, BmLaw_law, EV, EW, ev_o, ev_is, ev_gd, Nat.reduceLT, Nat.reduceAdd, Nat.reduceEqDiff, Nat.reduceLeDiff, reduceIte, true_and, and_true, or_true, true_or, lw_a1, lw_a2, lw_a3, lw_a4, lw_a5]
      have hx := lw_and (xs (nI (5 * k)).toNatClampNeg)
      generalize hxe : xs (nI (5 * k)).toNatClampNeg &&& 31 = x at hx ⊢
      refine ⟨fun _ => back w (hD k w hI), fun o t q1 q2 ho ht => ?_⟩
      have hcc := hC k w (by omega) hI
      obtain ⟨c0, c1, c2, c3, c4, c5, c6, c7, c8, c9, c10, c11, c12, c13, c14, c15, c16, c17, c18⟩ := hcc
      obtain ⟨j, hj, hj18⟩ : ∃ j : Nat, x.toInt = (j : Int) ∧ j ≤ 18 := ⟨x.toInt.toNat, by omega, by omega⟩
      rw [hj] at ho
      have hcase : j = 0 ∨ j = 1 ∨ j = 2 ∨ j = 3 ∨ j = 4 ∨ j = 5 ∨ j = 6 ∨ j = 7 ∨ j = 8 ∨ j = 9 ∨ j = 10 ∨ j = 11 ∨ j = 12 ∨ j = 13 ∨ j = 14 ∨ j = 15 ∨ j = 16 ∨ j = 17 ∨ j = 18 := by omega
      rcases hcase with rfl | rfl | rfl | rfl | rfl | rfl | rfl | rfl | rfl | rfl | rfl | rfl | rfl | rfl | rfl | rfl | rfl | rfl | rfl
      · have ho2 : o = 92 := (Option.some.inj ho).symm
        have ht2 : t = 124 := by omega
        subst ht2
        obtain ⟨e1, Q1, m1, c1⟩ := c0
        rw [if_neg (by decide)]
        simp only [e1, i0, i1, i2, i3, i4, BmLaw_law, EV, EW, ev_o, ev_is, ev_gd, Nat.reduceLT, Nat.reduceAdd, Nat.reduceEqDiff, Nat.reduceLeDiff, reduceIte, true_and, and_true, or_true, true_or, lw_a1, lw_a2, lw_a3, lw_a4, lw_a5]
        refine cx_cs1 12 0 0 ⟨by decide, by decide, by decide, hz⟩ m1 fun r w2 h2 => ?_
        obtain ⟨e2, x2, Q2, rfl, m2, c2⟩ := c1 r w2 h2
        simp only [e2, i0, i1, i2, i3, i4, BmLaw_law, EV, EW, ev_o, ev_is, ev_gd, Nat.reduceLT, Nat.reduceAdd, Nat.reduceEqDiff, Nat.reduceLeDiff, reduceIte, true_and, and_true, or_true, true_or, lw_a1, lw_a2, lw_a3, lw_a4, lw_a5]
        refine cx_cs1 12 0 0 ⟨by decide, by decide, by decide, hz⟩ m2 fun r2 w3 h3 => ?_
        obtain ⟨rfl, hJ⟩ := c2 r2 w3 h3
        simp only [BmLaw_law, EV, EW, ev_o, ev_is, ev_gd, Nat.reduceLT, Nat.reduceAdd, Nat.reduceEqDiff, Nat.reduceLeDiff, reduceIte, true_and, and_true, or_true, true_or, lw_a1, lw_a2, lw_a3, lw_a4, lw_a5, not_true_eq_false, false_imp_iff, true_imp_iff]
        exact back w3 hJ
      · have ho2 : o = 105 := (Option.some.inj ho).symm
        have ht2 : t = 137 := by omega
        subst ht2
        obtain ⟨e1, Q1, m1, c1⟩ := c1 (xs (nI (5 * k + 1)).toNatClampNeg)
        rw [if_neg (by decide)]
        simp only [e1, i0, i1, i2, i3, i4, BmLaw_law, EV, EW, ev_o, ev_is, ev_gd, Nat.reduceLT, Nat.reduceAdd, Nat.reduceEqDiff, Nat.reduceLeDiff, reduceIte, true_and, and_true, or_true, true_or, lw_a1, lw_a2, lw_a3, lw_a4, lw_a5]
        refine cx_cs1 12 0 0 ⟨by decide, by decide, by decide, hz⟩ m1 fun r w2 h2 => ?_
        obtain ⟨e2, x2, Q2, rfl, m2, c2⟩ := c1 r w2 h2
        simp only [e2, i0, i1, i2, i3, i4, BmLaw_law, EV, EW, ev_o, ev_is, ev_gd, Nat.reduceLT, Nat.reduceAdd, Nat.reduceEqDiff, Nat.reduceLeDiff, reduceIte, true_and, and_true, or_true, true_or, lw_a1, lw_a2, lw_a3, lw_a4, lw_a5]
        refine cx_cs1 12 0 0 ⟨by decide, by decide, by decide, hz⟩ m2 fun r2 w3 h3 => ?_
        obtain ⟨rfl, hJ⟩ := c2 r2 w3 h3
        simp only [BmLaw_law, EV, EW, ev_o, ev_is, ev_gd, Nat.reduceLT, Nat.reduceAdd, Nat.reduceEqDiff, Nat.reduceLeDiff, reduceIte, true_and, and_true, or_true, true_or, lw_a1, lw_a2, lw_a3, lw_a4, lw_a5, not_true_eq_false, false_imp_iff, true_imp_iff]
        exact back w3 hJ
      · have ho2 : o = 128 := (Option.some.inj ho).symm
        have ht2 : t = 160 := by omega
        subst ht2
        obtain ⟨e1, Q1, m1, c1⟩ := c2 (xs (nI (5 * k + 1)).toNatClampNeg) (xs (nI (5 * k + 2)).toNatClampNeg) (xs (nI (5 * k + 3)).toNatClampNeg) (xs (nI (5 * k + 4)).toNatClampNeg)
        rw [if_neg (by decide)]
        simp only [e1, i0, i1, i2, i3, i4, BmLaw_law, EV, EW, ev_o, ev_is, ev_gd, Nat.reduceLT, Nat.reduceAdd, Nat.reduceEqDiff, Nat.reduceLeDiff, reduceIte, true_and, and_true, or_true, true_or, lw_a1, lw_a2, lw_a3, lw_a4, lw_a5]
        refine cx_cs1 12 0 0 ⟨by decide, by decide, by decide, hz⟩ m1 fun r w2 h2 => ?_
        obtain ⟨e2, x2, Q2, rfl, m2, c2⟩ := c1 r w2 h2
        simp only [e2, i0, i1, i2, i3, i4, BmLaw_law, EV, EW, ev_o, ev_is, ev_gd, Nat.reduceLT, Nat.reduceAdd, Nat.reduceEqDiff, Nat.reduceLeDiff, reduceIte, true_and, and_true, or_true, true_or, lw_a1, lw_a2, lw_a3, lw_a4, lw_a5]
        refine cx_cs1 12 0 0 ⟨by decide, by decide, by decide, hz⟩ m2 fun r2 w3 h3 => ?_
        obtain ⟨rfl, hJ⟩ := c2 r2 w3 h3
        simp only [BmLaw_law, EV, EW, ev_o, ev_is, ev_gd, Nat.reduceLT, Nat.reduceAdd, Nat.reduceEqDiff, Nat.reduceLeDiff, reduceIte, true_and, and_true, or_true, true_or, lw_a1, lw_a2, lw_a3, lw_a4, lw_a5, not_true_eq_false, false_imp_iff, true_imp_iff]
        exact back w3 hJ
      · have ho2 : o = 181 := (Option.some.inj ho).symm
        have ht2 : t = 213 := by omega
        subst ht2
        obtain ⟨e1, Q1, m1, c1⟩ := c3 (xs (nI (5 * k + 1)).toNatClampNeg) (xs (nI (5 * k + 2)).toNatClampNeg)
        rw [if_neg (by decide)]
        simp only [e1, i0, i1, i2, i3, i4, BmLaw_law, EV, EW, ev_o, ev_is, ev_gd, Nat.reduceLT, Nat.reduceAdd, Nat.reduceEqDiff, Nat.reduceLeDiff, reduceIte, true_and, and_true, or_true, true_or, lw_a1, lw_a2, lw_a3, lw_a4, lw_a5]
        refine cx_cs1 12 0 0 ⟨by decide, by decide, by decide, hz⟩ m1 fun r w2 h2 => ?_
        obtain ⟨e2, x2, Q2, rfl, m2, c2⟩ := c1 r w2 h2
        simp only [e2, i0, i1, i2, i3, i4, BmLaw_law, EV, EW, ev_o, ev_is, ev_gd, Nat.reduceLT, Nat.reduceAdd, Nat.reduceEqDiff, Nat.reduceLeDiff, reduceIte, true_and, and_true, or_true, true_or, lw_a1, lw_a2, lw_a3, lw_a4, lw_a5]
        refine cx_cs1 12 0 0 ⟨by decide, by decide, by decide, hz⟩ m2 fun r2 w3 h3 => ?_
        obtain ⟨rfl, hJ⟩ := c2 r2 w3 h3
        simp only [BmLaw_law, EV, EW, ev_o, ev_is, ev_gd, Nat.reduceLT, Nat.reduceAdd, Nat.reduceEqDiff, Nat.reduceLeDiff, reduceIte, true_and, and_true, or_true, true_or, lw_a1, lw_a2, lw_a3, lw_a4, lw_a5, not_true_eq_false, false_imp_iff, true_imp_iff]
        exact back w3 hJ
      · have ho2 : o = 214 := (Option.some.inj ho).symm
        have ht2 : t = 246 := by omega
        subst ht2
        obtain ⟨e1, Q1, m1, c1⟩ := c4 (xs (nI (5 * k + 1)).toNatClampNeg)
        rw [if_neg (by decide)]
        simp only [e1, i0, i1, i2, i3, i4, BmLaw_law, EV, EW, ev_o, ev_is, ev_gd, Nat.reduceLT, Nat.reduceAdd, Nat.reduceEqDiff, Nat.reduceLeDiff, reduceIte, true_and, and_true, or_true, true_or, lw_a1, lw_a2, lw_a3, lw_a4, lw_a5]
        refine cx_cs1 12 0 0 ⟨by decide, by decide, by decide, hz⟩ m1 fun r w2 h2 => ?_
        obtain ⟨e2, x2, Q2, rfl, m2, c2⟩ := c1 r w2 h2
        simp only [e2, i0, i1, i2, i3, i4, BmLaw_law, EV, EW, ev_o, ev_is, ev_gd, Nat.reduceLT, Nat.reduceAdd, Nat.reduceEqDiff, Nat.reduceLeDiff, reduceIte, true_and, and_true, or_true, true_or, lw_a1, lw_a2, lw_a3, lw_a4, lw_a5]
        refine cx_cs1 12 0 0 ⟨by decide, by decide, by decide, hz⟩ m2 fun r2 w3 h3 => ?_
        obtain ⟨rfl, hJ⟩ := c2 r2 w3 h3
        simp only [BmLaw_law, EV, EW, ev_o, ev_is, ev_gd, Nat.reduceLT, Nat.reduceAdd, Nat.reduceEqDiff, Nat.reduceLeDiff, reduceIte, true_and, and_true, or_true, true_or, lw_a1, lw_a2, lw_a3, lw_a4, lw_a5, not_true_eq_false, false_imp_iff, true_imp_iff]
        exact back w3 hJ
      · have ho2 : o = 237 := (Option.some.inj ho).symm
        have ht2 : t = 269 := by omega
        subst ht2
        obtain ⟨e1, Q1, m1, c1⟩ := c5 (xs (nI (5 * k + 1)).toNatClampNeg) (xs (nI (5 * k + 2)).toNatClampNeg) (xs (nI (5 * k + 3)).toNatClampNeg)
        rw [if_neg (by decide)]
        simp only [e1, i0, i1, i2, i3, i4, BmLaw_law, EV, EW, ev_o, ev_is, ev_gd, Nat.reduceLT, Nat.reduceAdd, Nat.reduceEqDiff, Nat.reduceLeDiff, reduceIte, true_and, and_true, or_true, true_or, lw_a1, lw_a2, lw_a3, lw_a4, lw_a5]
        refine cx_cs1 12 0 0 ⟨by decide, by decide, by decide, hz⟩ m1 fun r w2 h2 => ?_
        obtain ⟨e2, x2, Q2, rfl, m2, c2⟩ := c1 r w2 h2
        simp only [e2, i0, i1, i2, i3, i4, BmLaw_law, EV, EW, ev_o, ev_is, ev_gd, Nat.reduceLT, Nat.reduceAdd, Nat.reduceEqDiff, Nat.reduceLeDiff, reduceIte, true_and, and_true, or_true, true_or, lw_a1, lw_a2, lw_a3, lw_a4, lw_a5]
        refine cx_cs1 12 0 0 ⟨by decide, by decide, by decide, hz⟩ m2 fun r2 w3 h3 => ?_
        obtain ⟨rfl, hJ⟩ := c2 r2 w3 h3
        simp only [BmLaw_law, EV, EW, ev_o, ev_is, ev_gd, Nat.reduceLT, Nat.reduceAdd, Nat.reduceEqDiff, Nat.reduceLeDiff, reduceIte, true_and, and_true, or_true, true_or, lw_a1, lw_a2, lw_a3, lw_a4, lw_a5, not_true_eq_false, false_imp_iff, true_imp_iff]
        exact back w3 hJ
      · have ho2 : o = 280 := (Option.some.inj ho).symm
        have ht2 : t = 312 := by omega
        subst ht2
        obtain ⟨e1, Q1, m1, c1⟩ := c6
        rw [if_neg (by decide)]
        simp only [e1, i0, i1, i2, i3, i4, BmLaw_law, EV, EW, ev_o, ev_is, ev_gd, Nat.reduceLT, Nat.reduceAdd, Nat.reduceEqDiff, Nat.reduceLeDiff, reduceIte, true_and, and_true, or_true, true_or, lw_a1, lw_a2, lw_a3, lw_a4, lw_a5]
        refine cx_cs1 12 0 0 ⟨by decide, by decide, by decide, hz⟩ m1 fun r w2 h2 => ?_
        obtain ⟨e2, x2, Q2, rfl, m2, c2⟩ := c1 r w2 h2
        simp only [e2, i0, i1, i2, i3, i4, BmLaw_law, EV, EW, ev_o, ev_is, ev_gd, Nat.reduceLT, Nat.reduceAdd, Nat.reduceEqDiff, Nat.reduceLeDiff, reduceIte, true_and, and_true, or_true, true_or, lw_a1, lw_a2, lw_a3, lw_a4, lw_a5]
        refine cx_cs1 12 0 0 ⟨by decide, by decide, by decide, hz⟩ m2 fun r2 w3 h3 => ?_
        obtain ⟨rfl, hJ⟩ := c2 r2 w3 h3
        simp only [BmLaw_law, EV, EW, ev_o, ev_is, ev_gd, Nat.reduceLT, Nat.reduceAdd, Nat.reduceEqDiff, Nat.reduceLeDiff, reduceIte, true_and, and_true, or_true, true_or, lw_a1, lw_a2, lw_a3, lw_a4, lw_a5, not_true_eq_false, false_imp_iff, true_imp_iff]
        exact back w3 hJ
      · have ho2 : o = 293 := (Option.some.inj ho).symm
        have ht2 : t = 325 := by omega
        subst ht2
        obtain ⟨e1, Q1, m1, c1⟩ := c7 (xs (nI (5 * k + 1)).toNatClampNeg)
        rw [if_neg (by decide)]
        simp only [e1, i0, i1, i2, i3, i4, BmLaw_law, EV, EW, ev_o, ev_is, ev_gd, Nat.reduceLT, Nat.reduceAdd, Nat.reduceEqDiff, Nat.reduceLeDiff, reduceIte, true_and, and_true, or_true, true_or, lw_a1, lw_a2, lw_a3, lw_a4, lw_a5]
        refine cx_cs1 12 0 0 ⟨by decide, by decide, by decide, hz⟩ m1 fun r w2 h2 => ?_
        obtain ⟨e2, x2, Q2, rfl, m2, c2⟩ := c1 r w2 h2
        simp only [e2, i0, i1, i2, i3, i4, BmLaw_law, EV, EW, ev_o, ev_is, ev_gd, Nat.reduceLT, Nat.reduceAdd, Nat.reduceEqDiff, Nat.reduceLeDiff, reduceIte, true_and, and_true, or_true, true_or, lw_a1, lw_a2, lw_a3, lw_a4, lw_a5]
        refine cx_cs1 12 0 0 ⟨by decide, by decide, by decide, hz⟩ m2 fun r2 w3 h3 => ?_
        obtain ⟨rfl, hJ⟩ := c2 r2 w3 h3
        simp only [BmLaw_law, EV, EW, ev_o, ev_is, ev_gd, Nat.reduceLT, Nat.reduceAdd, Nat.reduceEqDiff, Nat.reduceLeDiff, reduceIte, true_and, and_true, or_true, true_or, lw_a1, lw_a2, lw_a3, lw_a4, lw_a5, not_true_eq_false, false_imp_iff, true_imp_iff]
        exact back w3 hJ
      · have ho2 : o = 316 := (Option.some.inj ho).symm
        have ht2 : t = 348 := by omega
        subst ht2
        obtain ⟨e1, Q1, m1, c1⟩ := c8 (xs (nI (5 * k + 1)).toNatClampNeg) (xs (nI (5 * k + 2)).toNatClampNeg)
        rw [if_neg (by decide)]
        simp only [e1, i0, i1, i2, i3, i4, BmLaw_law, EV, EW, ev_o, ev_is, ev_gd, Nat.reduceLT, Nat.reduceAdd, Nat.reduceEqDiff, Nat.reduceLeDiff, reduceIte, true_and, and_true, or_true, true_or, lw_a1, lw_a2, lw_a3, lw_a4, lw_a5]
        refine cx_cs1 12 0 0 ⟨by decide, by decide, by decide, hz⟩ m1 fun r w2 h2 => ?_
        obtain ⟨e2, x2, Q2, rfl, m2, c2⟩ := c1 r w2 h2
        simp only [e2, i0, i1, i2, i3, i4, BmLaw_law, EV, EW, ev_o, ev_is, ev_gd, Nat.reduceLT, Nat.reduceAdd, Nat.reduceEqDiff, Nat.reduceLeDiff, reduceIte, true_and, and_true, or_true, true_or, lw_a1, lw_a2, lw_a3, lw_a4, lw_a5]
        refine cx_cs1 12 0 0 ⟨by decide, by decide, by decide, hz⟩ m2 fun r2 w3 h3 => ?_
        obtain ⟨rfl, hJ⟩ := c2 r2 w3 h3
        simp only [BmLaw_law, EV, EW, ev_o, ev_is, ev_gd, Nat.reduceLT, Nat.reduceAdd, Nat.reduceEqDiff, Nat.reduceLeDiff, reduceIte, true_and, and_true, or_true, true_or, lw_a1, lw_a2, lw_a3, lw_a4, lw_a5, not_true_eq_false, false_imp_iff, true_imp_iff]
        exact back w3 hJ
      · have ho2 : o = 349 := (Option.some.inj ho).symm
        have ht2 : t = 381 := by omega
        subst ht2
        obtain ⟨e1, Q1, m1, c1⟩ := c9
        rw [if_neg (by decide)]
        simp only [e1, i0, i1, i2, i3, i4, BmLaw_law, EV, EW, ev_o, ev_is, ev_gd, Nat.reduceLT, Nat.reduceAdd, Nat.reduceEqDiff, Nat.reduceLeDiff, reduceIte, true_and, and_true, or_true, true_or, lw_a1, lw_a2, lw_a3, lw_a4, lw_a5]
        refine cx_cs1 12 0 0 ⟨by decide, by decide, by decide, hz⟩ m1 fun r w2 h2 => ?_
        obtain ⟨e2, x2, Q2, rfl, m2, c2⟩ := c1 r w2 h2
        simp only [e2, i0, i1, i2, i3, i4, BmLaw_law, EV, EW, ev_o, ev_is, ev_gd, Nat.reduceLT, Nat.reduceAdd, Nat.reduceEqDiff, Nat.reduceLeDiff, reduceIte, true_and, and_true, or_true, true_or, lw_a1, lw_a2, lw_a3, lw_a4, lw_a5]
        refine cx_cs1 12 0 0 ⟨by decide, by decide, by decide, hz⟩ m2 fun r2 w3 h3 => ?_
        obtain ⟨rfl, hJ⟩ := c2 r2 w3 h3
        simp only [BmLaw_law, EV, EW, ev_o, ev_is, ev_gd, Nat.reduceLT, Nat.reduceAdd, Nat.reduceEqDiff, Nat.reduceLeDiff, reduceIte, true_and, and_true, or_true, true_or, lw_a1, lw_a2, lw_a3, lw_a4, lw_a5, not_true_eq_false, false_imp_iff, true_imp_iff]
        exact back w3 hJ
      · have ho2 : o = 362 := (Option.some.inj ho).symm
        have ht2 : t = 394 := by omega
        subst ht2
        obtain ⟨e1, Q1, m1, c1⟩ := c10
        rw [if_neg (by decide)]
        simp only [e1, i0, i1, i2, i3, i4, BmLaw_law, EV, EW, ev_o, ev_is, ev_gd, Nat.reduceLT, Nat.reduceAdd, Nat.reduceEqDiff, Nat.reduceLeDiff, reduceIte, true_and, and_true, or_true, true_or, lw_a1, lw_a2, lw_a3, lw_a4, lw_a5]
        refine cx_cs1 12 0 0 ⟨by decide, by decide, by decide, hz⟩ m1 fun r w2 h2 => ?_
        obtain ⟨e2, x2, Q2, rfl, m2, c2⟩ := c1 r w2 h2
        simp only [e2, i0, i1, i2, i3, i4, BmLaw_law, EV, EW, ev_o, ev_is, ev_gd, Nat.reduceLT, Nat.reduceAdd, Nat.reduceEqDiff, Nat.reduceLeDiff, reduceIte, true_and, and_true, or_true, true_or, lw_a1, lw_a2, lw_a3, lw_a4, lw_a5]
        refine cx_cs1 12 0 0 ⟨by decide, by decide, by decide, hz⟩ m2 fun r2 w3 h3 => ?_
        obtain ⟨rfl, hJ⟩ := c2 r2 w3 h3
        simp only [BmLaw_law, EV, EW, ev_o, ev_is, ev_gd, Nat.reduceLT, Nat.reduceAdd, Nat.reduceEqDiff, Nat.reduceLeDiff, reduceIte, true_and, and_true, or_true, true_or, lw_a1, lw_a2, lw_a3, lw_a4, lw_a5, not_true_eq_false, false_imp_iff, true_imp_iff]
        exact back w3 hJ
      · have ho2 : o = 375 := (Option.some.inj ho).symm
        have ht2 : t = 407 := by omega
        subst ht2
        obtain ⟨e1, Q1, m1, c1⟩ := c11 (xs (nI (5 * k + 1)).toNatClampNeg)
        rw [if_neg (by decide)]
        simp only [e1, i0, i1, i2, i3, i4, BmLaw_law, EV, EW, ev_o, ev_is, ev_gd, Nat.reduceLT, Nat.reduceAdd, Nat.reduceEqDiff, Nat.reduceLeDiff, reduceIte, true_and, and_true, or_true, true_or, lw_a1, lw_a2, lw_a3, lw_a4, lw_a5]
        refine cx_cs1 12 0 0 ⟨by decide, by decide, by decide, hz⟩ m1 fun r w2 h2 => ?_
        obtain ⟨e2, x2, Q2, rfl, m2, c2⟩ := c1 r w2 h2
        simp only [e2, i0, i1, i2, i3, i4, BmLaw_law, EV, EW, ev_o, ev_is, ev_gd, Nat.reduceLT, Nat.reduceAdd, Nat.reduceEqDiff, Nat.reduceLeDiff, reduceIte, true_and, and_true, or_true, true_or, lw_a1, lw_a2, lw_a3, lw_a4, lw_a5]
        refine cx_cs1 12 0 0 ⟨by decide, by decide, by decide, hz⟩ m2 fun r2 w3 h3 => ?_
        obtain ⟨rfl, hJ⟩ := c2 r2 w3 h3
        simp only [BmLaw_law, EV, EW, ev_o, ev_is, ev_gd, Nat.reduceLT, Nat.reduceAdd, Nat.reduceEqDiff, Nat.reduceLeDiff, reduceIte, true_and, and_true, or_true, true_or, lw_a1, lw_a2, lw_a3, lw_a4, lw_a5, not_true_eq_false, false_imp_iff, true_imp_iff]
        exact back w3 hJ
      · have ho2 : o = 398 := (Option.some.inj ho).symm
        have ht2 : t = 430 := by omega
        subst ht2
        obtain ⟨e1, Q1, m1, c1⟩ := c12
        rw [if_neg (by decide)]
        simp only [e1, i0, i1, i2, i3, i4, BmLaw_law, EV, EW, ev_o, ev_is, ev_gd, Nat.reduceLT, Nat.reduceAdd, Nat.reduceEqDiff, Nat.reduceLeDiff, reduceIte, true_and, and_true, or_true, true_or, lw_a1, lw_a2, lw_a3, lw_a4, lw_a5]
        refine cx_cs1 12 0 0 ⟨by decide, by decide, by decide, hz⟩ m1 fun r w2 h2 => ?_
        obtain ⟨e2, x2, Q2, rfl, m2, c2⟩ := c1 r w2 h2
        simp only [e2, i0, i1, i2, i3, i4, BmLaw_law, EV, EW, ev_o, ev_is, ev_gd, Nat.reduceLT, Nat.reduceAdd, Nat.reduceEqDiff, Nat.reduceLeDiff, reduceIte, true_and, and_true, or_true, true_or, lw_a1, lw_a2, lw_a3, lw_a4, lw_a5]
        refine cx_cs1 12 0 0 ⟨by decide, by decide, by decide, hz⟩ m2 fun r2 w3 h3 => ?_
        obtain ⟨rfl, hJ⟩ := c2 r2 w3 h3
        simp only [BmLaw_law, EV, EW, ev_o, ev_is, ev_gd, Nat.reduceLT, Nat.reduceAdd, Nat.reduceEqDiff, Nat.reduceLeDiff, reduceIte, true_and, and_true, or_true, true_or, lw_a1, lw_a2, lw_a3, lw_a4, lw_a5, not_true_eq_false, false_imp_iff, true_imp_iff]
        exact back w3 hJ
      · have ho2 : o = 411 := (Option.some.inj ho).symm
        have ht2 : t = 443 := by omega
        subst ht2
        obtain ⟨e1, Q1, m1, c1⟩ := c13
        rw [if_neg (by decide)]
        simp only [e1, i0, i1, i2, i3, i4, BmLaw_law, EV, EW, ev_o, ev_is, ev_gd, Nat.reduceLT, Nat.reduceAdd, Nat.reduceEqDiff, Nat.reduceLeDiff, reduceIte, true_and, and_true, or_true, true_or, lw_a1, lw_a2, lw_a3, lw_a4, lw_a5]
        refine cx_cs1 12 0 0 ⟨by decide, by decide, by decide, hz⟩ m1 fun r w2 h2 => ?_
        obtain ⟨e2, x2, Q2, rfl, m2, c2⟩ := c1 r w2 h2
        simp only [e2, i0, i1, i2, i3, i4, BmLaw_law, EV, EW, ev_o, ev_is, ev_gd, Nat.reduceLT, Nat.reduceAdd, Nat.reduceEqDiff, Nat.reduceLeDiff, reduceIte, true_and, and_true, or_true, true_or, lw_a1, lw_a2, lw_a3, lw_a4, lw_a5]
        refine cx_cs1 12 0 0 ⟨by decide, by decide, by decide, hz⟩ m2 fun r2 w3 h3 => ?_
        obtain ⟨rfl, hJ⟩ := c2 r2 w3 h3
        simp only [BmLaw_law, EV, EW, ev_o, ev_is, ev_gd, Nat.reduceLT, Nat.reduceAdd, Nat.reduceEqDiff, Nat.reduceLeDiff, reduceIte, true_and, and_true, or_true, true_or, lw_a1, lw_a2, lw_a3, lw_a4, lw_a5, not_true_eq_false, false_imp_iff, true_imp_iff]
        exact back w3 hJ
      · have ho2 : o = 424 := (Option.some.inj ho).symm
        have ht2 : t = 456 := by omega
        subst ht2
        obtain ⟨e1, Q1, m1, c1⟩ := c14 (xs (nI (5 * k + 1)).toNatClampNeg)
        rw [if_neg (by decide)]
        simp only [e1, i0, i1, i2, i3, i4, BmLaw_law, EV, EW, ev_o, ev_is, ev_gd, Nat.reduceLT, Nat.reduceAdd, Nat.reduceEqDiff, Nat.reduceLeDiff, reduceIte, true_and, and_true, or_true, true_or, lw_a1, lw_a2, lw_a3, lw_a4, lw_a5]
        refine cx_cs1 12 0 0 ⟨by decide, by decide, by decide, hz⟩ m1 fun r w2 h2 => ?_
        obtain ⟨e2, x2, Q2, rfl, m2, c2⟩ := c1 r w2 h2
        simp only [e2, i0, i1, i2, i3, i4, BmLaw_law, EV, EW, ev_o, ev_is, ev_gd, Nat.reduceLT, Nat.reduceAdd, Nat.reduceEqDiff, Nat.reduceLeDiff, reduceIte, true_and, and_true, or_true, true_or, lw_a1, lw_a2, lw_a3, lw_a4, lw_a5]
        refine cx_cs1 12 0 0 ⟨by decide, by decide, by decide, hz⟩ m2 fun r2 w3 h3 => ?_
        obtain ⟨rfl, hJ⟩ := c2 r2 w3 h3
        simp only [BmLaw_law, EV, EW, ev_o, ev_is, ev_gd, Nat.reduceLT, Nat.reduceAdd, Nat.reduceEqDiff, Nat.reduceLeDiff, reduceIte, true_and, and_true, or_true, true_or, lw_a1, lw_a2, lw_a3, lw_a4, lw_a5, not_true_eq_false, false_imp_iff, true_imp_iff]
        exact back w3 hJ
      · have ho2 : o = 447 := (Option.some.inj ho).symm
        have ht2 : t = 479 := by omega
        subst ht2
        obtain ⟨e1, Q1, m1, c1⟩ := c15 (xs (nI (5 * k + 1)).toNatClampNeg) (xs (nI (5 * k + 2)).toNatClampNeg)
        rw [if_neg (by decide)]
        simp only [e1, i0, i1, i2, i3, i4, BmLaw_law, EV, EW, ev_o, ev_is, ev_gd, Nat.reduceLT, Nat.reduceAdd, Nat.reduceEqDiff, Nat.reduceLeDiff, reduceIte, true_and, and_true, or_true, true_or, lw_a1, lw_a2, lw_a3, lw_a4, lw_a5]
        refine cx_cs1 12 0 0 ⟨by decide, by decide, by decide, hz⟩ m1 fun r w2 h2 => ?_
        obtain ⟨e2, x2, Q2, rfl, m2, c2⟩ := c1 r w2 h2
        simp only [e2, i0, i1, i2, i3, i4, BmLaw_law, EV, EW, ev_o, ev_is, ev_gd, Nat.reduceLT, Nat.reduceAdd, Nat.reduceEqDiff, Nat.reduceLeDiff, reduceIte, true_and, and_true, or_true, true_or, lw_a1, lw_a2, lw_a3, lw_a4, lw_a5]
        refine cx_cs1 12 0 0 ⟨by decide, by decide, by decide, hz⟩ m2 fun r2 w3 h3 => ?_
        obtain ⟨rfl, hJ⟩ := c2 r2 w3 h3
        simp only [lw_cmp, BmLaw_law, EV, EW, ev_o, ev_is, ev_gd, Nat.reduceLT, Nat.reduceAdd, Nat.reduceEqDiff, Nat.reduceLeDiff, reduceIte, true_and, and_true, or_true, true_or, lw_a1, lw_a2, lw_a3, lw_a4, lw_a5, not_true_eq_false, false_imp_iff, true_imp_iff]
        exact back w3 hJ
      · have ho2 : o = 481 := (Option.some.inj ho).symm
        have ht2 : t = 513 := by omega
        subst ht2
        obtain ⟨e1, Q1, m1, c1⟩ := c16 (xs (nI (5 * k + 1)).toNatClampNeg)
        rw [if_neg (by decide)]
        simp only [e1, i0, i1, i2, i3, i4, BmLaw_law, EV, EW, ev_o, ev_is, ev_gd, Nat.reduceLT, Nat.reduceAdd, Nat.reduceEqDiff, Nat.reduceLeDiff, reduceIte, true_and, and_true, or_true, true_or, lw_a1, lw_a2, lw_a3, lw_a4, lw_a5]
        refine cx_cs1 12 0 0 ⟨by decide, by decide, by decide, hz⟩ m1 fun r w2 h2 => ?_
        obtain ⟨e2, x2, Q2, rfl, m2, c2⟩ := c1 r w2 h2
        simp only [e2, i0, i1, i2, i3, i4, BmLaw_law, EV, EW, ev_o, ev_is, ev_gd, Nat.reduceLT, Nat.reduceAdd, Nat.reduceEqDiff, Nat.reduceLeDiff, reduceIte, true_and, and_true, or_true, true_or, lw_a1, lw_a2, lw_a3, lw_a4, lw_a5]
        refine cx_cs1 12 0 0 ⟨by decide, by decide, by decide, hz⟩ m2 fun r2 w3 h3 => ?_
        obtain ⟨rfl, hJ⟩ := c2 r2 w3 h3
        simp only [BmLaw_law, EV, EW, ev_o, ev_is, ev_gd, Nat.reduceLT, Nat.reduceAdd, Nat.reduceEqDiff, Nat.reduceLeDiff, reduceIte, true_and, and_true, or_true, true_or, lw_a1, lw_a2, lw_a3, lw_a4, lw_a5, not_true_eq_false, false_imp_iff, true_imp_iff]
        exact back w3 hJ
      · have ho2 : o = 504 := (Option.some.inj ho).symm
        have ht2 : t = 536 := by omega
        subst ht2
        obtain ⟨e1, Q1, m1, c1⟩ := c17 (xs (nI (5 * k + 1)).toNatClampNeg)
        rw [if_neg (by decide)]
        simp only [e1, i0, i1, i2, i3, i4, BmLaw_law, EV, EW, ev_o, ev_is, ev_gd, Nat.reduceLT, Nat.reduceAdd, Nat.reduceEqDiff, Nat.reduceLeDiff, reduceIte, true_and, and_true, or_true, true_or, lw_a1, lw_a2, lw_a3, lw_a4, lw_a5]
        refine cx_cs1 12 0 0 ⟨by decide, by decide, by decide, hz⟩ m1 fun r w2 h2 => ?_
        obtain ⟨e2, x2, Q2, rfl, m2, c2⟩ := c1 r w2 h2
        simp only [e2, i0, i1, i2, i3, i4, BmLaw_law, EV, EW, ev_o, ev_is, ev_gd, Nat.reduceLT, Nat.reduceAdd, Nat.reduceEqDiff, Nat.reduceLeDiff, reduceIte, true_and, and_true, or_true, true_or, lw_a1, lw_a2, lw_a3, lw_a4, lw_a5]
        refine cx_cs1 12 0 0 ⟨by decide, by decide, by decide, hz⟩ m2 fun r2 w3 h3 => ?_
        obtain ⟨rfl, hJ⟩ := c2 r2 w3 h3
        simp only [BmLaw_law, EV, EW, ev_o, ev_is, ev_gd, Nat.reduceLT, Nat.reduceAdd, Nat.reduceEqDiff, Nat.reduceLeDiff, reduceIte, true_and, and_true, or_true, true_or, lw_a1, lw_a2, lw_a3, lw_a4, lw_a5, not_true_eq_false, false_imp_iff, true_imp_iff]
        exact back w3 hJ
      · have ho2 : o = 527 := (Option.some.inj ho).symm
        have ht2 : t = 559 := by omega
        subst ht2
        obtain ⟨e1, Q1, m1, c1⟩ := c18
        rw [if_neg (by decide)]
        simp only [e1, i0, i1, i2, i3, i4, BmLaw_law, EV, EW, ev_o, ev_is, ev_gd, Nat.reduceLT, Nat.reduceAdd, Nat.reduceEqDiff, Nat.reduceLeDiff, reduceIte, true_and, and_true, or_true, true_or, lw_a1, lw_a2, lw_a3, lw_a4, lw_a5]
        refine cx_cs1 12 0 0 ⟨by decide, by decide, by decide, hz⟩ m1 fun r w2 h2 => ?_
        obtain ⟨e2, Q2, rfl, m2, c2⟩ := c1 r w2 h2
        simp only [e2, i0, i1, i2, i3, i4, BmLaw_law, EV, EW, ev_o, ev_is, ev_gd, Nat.reduceLT, Nat.reduceAdd, Nat.reduceEqDiff, Nat.reduceLeDiff, reduceIte, true_and, and_true, or_true, true_or, lw_a1, lw_a2, lw_a3, lw_a4, lw_a5]
        refine cx_cs1 12 0 0 ⟨by decide, by decide, by decide, hz⟩ m2 fun r2 w3 h3 => ?_
        obtain ⟨rfl, hJ⟩ := c2 r2 w3 h3
        simp only [BmLaw_law, EV, EW, ev_o, ev_is, ev_gd, Nat.reduceLT, Nat.reduceAdd, Nat.reduceEqDiff, Nat.reduceLeDiff, reduceIte, true_and, and_true, or_true, true_or, lw_a1, lw_a2, lw_a3, lw_a4, lw_a5]
        exact back w3 hJ
