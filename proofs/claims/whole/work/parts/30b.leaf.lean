/-! New nodes of a table are no leaves. Own work. -/
def LG (n0 : Nat) (iv nd : Int32) (G : Gr) : Prop := ∀ j, n0 ≤ j → j < G.1 → G.2.1 j = iv ∨ G.2.1 j = nd
theorem mk_lg {n0 : Nat} {iv nd : Int32} {G : Gr} {k x y : Int32} (h : LG n0 iv nd G) (hk : k = iv ∨ k = nd) : LG n0 iv nd (mk G k x y).2 := by
  rcases mk_cases G k x y with ⟨j, _, e⟩ | e
  · rw [e]; exact h
  · rw [e]
    intro j h0 hj
    have hj : j < G.1 + 1 := hj
    by_cases e2 : j = G.1
    · subst e2
      simp only [addN, upd, reduceIte]
      exact hk
    · simp only [addN, upd, if_neg e2]
      exact h j h0 (by omega)
theorem inv_lg {n0 : Nat} {iv nd : Int32} {G : Gr} {x : Int32} (h : LG n0 iv nd G) : LG n0 iv nd (invN iv G x).2 := by
  unfold invN
  split
  · exact h
  · exact mk_lg h (.inl rfl)
theorem nand_lg {n0 : Nat} {iv nd : Int32} {G : Gr} {x y : Int32} (h : LG n0 iv nd G) : LG n0 iv nd (nandN iv nd G x y).2 := by
  unfold nandN
  by_cases e : x = y
  · rw [if_pos e]; exact inv_lg h
  · rw [if_neg e]
    split
    · exact mk_lg h (.inr rfl)
    · exact mk_lg h (.inr rfl)
theorem join_lg {n0 : Nat} {iv nd : Int32} {G : Gr} {z l g : Int32} {lo hi : Nat} (h : LG n0 iv nd G) : LG n0 iv nd (joinN iv nd G z lo l hi g).2 := by
  unfold joinN
  split
  · split
    · exact h
    · exact inv_lg h
  · split
    · split
      · exact inv_lg (nand_lg h)
      · exact nand_lg (inv_lg h)
    · split
      · exact nand_lg (nand_lg (inv_lg (nand_lg h)))
      · split
        · exact inv_lg (nand_lg (inv_lg h))
        · exact nand_lg (inv_lg (inv_lg h))
theorem tab1_lg {n0 : Nat} {iv nd : Int32} {G : Gr} {z0 : Int32} {t : Nat} (h : LG n0 iv nd G) : LG n0 iv nd (tab1 iv nd G z0 t).2 := join_lg h
theorem tab2_lg {n0 : Nat} {iv nd : Int32} {G : Gr} {z0 z1 : Int32} {t : Nat} (h : LG n0 iv nd G) : LG n0 iv nd (tab2 iv nd G z0 z1 t).2 := by
  have hL : LG n0 iv nd (tb2L iv nd G z0 t).2 := by unfold tb2L; split <;> first | exact tab1_lg h | exact h
  have hH : LG n0 iv nd (tb2H iv nd G z0 t).2 := by unfold tb2H; split <;> first | exact tab1_lg hL | exact hL
  unfold tab2
  split
  · exact tab1_lg h
  · exact join_lg hH
theorem tab3_lg {n0 : Nat} {iv nd : Int32} {G : Gr} {z0 z1 z2 : Int32} {t : Nat} (h : LG n0 iv nd G) : LG n0 iv nd (tab3 iv nd G z0 z1 z2 t).2 := by
  have hL : LG n0 iv nd (tb3L iv nd G z0 z1 t).2 := by unfold tb3L; split <;> first | exact tab2_lg h | exact h
  have hH : LG n0 iv nd (tb3H iv nd G z0 z1 t).2 := by unfold tb3H; split <;> first | exact tab2_lg hL | exact hL
  unfold tab3
  split
  · exact tab2_lg h
  · exact join_lg hH
theorem NetP.la {R : Nat → Nat → Int32} {s : Nat → Nat} {i : Nat} (h : NetP R s i) (e : R 46 i = 1) : LaP R s i := by
  rcases h.2.2 with p | p | p
  · rw [p.1] at e; exact absurd e (by decide)
  · exact p
  · rw [p.1] at e; exact absurd e (by decide)
theorem NetP.no {R : Nat → Nat → Int32} {s : Nat → Nat} {i : Nat} (h : NetP R s i) (e : ¬ R 46 i = 1) : R 8 i = -1 ∧ R 48 i = 0 ∧ R 49 i = 0 := by
  rcases h.2.2 with p | p | p
  · exact ⟨p.2.1, p.2.2.1, p.2.2.2.1⟩
  · exact absurd p.1 e
  · exact ⟨p.2.1, p.2.2.1, p.2.2.2.1⟩
def cellK (k : Nat) : Prop := k = 14 ∨ k = 15 ∨ k = 16 ∨ k = 17 ∨ k = 18 ∨ k = 19 ∨ k = 61 ∨ k = 62 ∨ k = 63
theorem CellP.of {R R2 : Nat → Nat → Int32} {c : Nat} (h : CellP R c) (hc : ∀ k, cellK k → R2 k c = R k c) : CellP R2 c := by
  unfold CellP
  rw [hc 61 (by unfold cellK; omega), hc 62 (by unfold cellK; omega), hc 63 (by unfold cellK; omega), hc 14 (by unfold cellK; omega), hc 15 (by unfold cellK; omega), hc 16 (by unfold cellK; omega), hc 17 (by unfold cellK; omega), hc 18 (by unfold cellK; omega), hc 19 (by unfold cellK; omega)]
  exact h
/-- a net more -/
theorem Bd_add {R R2 : Nat → Nat → Int32} {s s2 : Nat → Nat} (hB : Bd R s) (hE : Ext R R2 s s2) (h2 : s2 2 = s 2 + 1) (hN : NumP R2 s2) (hG : GrP R2 s2) (hn : NetP R2 s2 (s 2))
    (hlf : ∀ m, s 1 ≤ m → m < s2 1 → (R2 2 m = 0 ∨ R2 2 m = 1) → ∃ i : Nat, i < s2 2 ∧ R2 59 m = nI i ∧ R2 7 i = nI m ∧ R2 46 i = R2 2 m)
    (hl : (s2 4 = s 4 ∧ ¬ R2 46 (s 2) = 1) ∨ (s2 4 = s 4 + 1 ∧ R2 46 (s 2) = 1 ∧ R2 8 (s 2) = nI (s 4) ∧ R2 9 (s 4) = -1)) (h5 : s2 5 = s 5) (h6 : s2 6 = s 6) (h10 : R2 10 = R 10) (h60 : R2 60 = R 60) (hc : ∀ k, cellK k → R2 k = R k) : Bd R2 s2 := by
  obtain ⟨b1, b2, b3, b4, b5, b6, b7, b8⟩ := hB
  have h48 := b1.1
  have hs4 := b1.2.2.2.1
  have hold : ∀ i, i < s 2 → NetP R2 s2 i := fun i hi => hE.net h48 hi (b3 i hi)
  have c := hE.2.2.1
  refine ⟨hN, hG, fun i hi => ?_, fun m hm hk => ?_, fun l hl2 => ?_, fun i j hi hj ei ej e8 => ?_, fun o ho => ?_, fun c_ hc_ => ?_⟩
  · by_cases e : i = s 2
    · rw [e]; exact hn
    · exact hold i (by omega)
  · by_cases e : m < s 1
    · have bm := hE.2.1 m e
      rw [bm.1] at hk
      obtain ⟨i, i1, i2, i3, i4⟩ := b4 m e hk
      have ci := c i i1
      exact ⟨i, by omega, by rw [bm.2.2.2.2]; exact i2, by rw [ci.1]; exact i3, by rw [ci.2.2.1, bm.1]; exact i4⟩
    · exact hlf m (by omega) hm hk
  · by_cases e : l < s 4
    · obtain ⟨⟨i, i1, i2, i3⟩, j⟩ := b5 l e
      have ci := c i i1
      refine ⟨⟨i, by omega, by rw [ci.2.2.1]; exact i2, by rw [ci.2.1]; exact i3⟩, ?_⟩
      rw [hE.2.2.2 l e]
      exact j.imp id fun ⟨j, j1, j2⟩ => ⟨j, by omega, j2⟩
    · rcases hl with ⟨e4, _⟩ | ⟨e4, q1, q2, q3⟩
      · omega
      · have e5 : l = s 4 := by omega
        subst e5
        exact ⟨⟨s 2, by omega, q1, q2⟩, .inl q3⟩
  · -- latches' nets differ
    have key : ∀ i, i < s 2 → R2 46 i = 1 → ∃ l, l < s 4 ∧ R2 8 i = nI l := fun i hi e => by
      have ci := c i hi
      rw [ci.2.2.1] at e
      obtain ⟨l, l1, l2, _⟩ := ((b3 i hi).la e).2.1
      exact ⟨l, l1, by rw [ci.2.1]; exact l2⟩
    have new : ∀ i, i < s 2 → R2 46 i = 1 → R2 46 (s 2) = 1 → ¬ R2 8 i = R2 8 (s 2) := fun i hi e e2 q => by
      rcases hl with ⟨_, z⟩ | ⟨_, _, q2, _⟩
      · exact z e2
      · obtain ⟨l, l1, l2⟩ := key i hi e
        rw [l2, q2] at q
        have := (nI_eq (by omega) (by omega)).mp q
        omega
    by_cases e1 : i = s 2
    · by_cases e2 : j = s 2
      · rw [e1, e2]
      · rw [e1] at ei e8
        exact absurd e8.symm (new j (by omega) ej ei)
    · by_cases e2 : j = s 2
      · rw [e2] at ej e8
        exact absurd e8 (new i (by omega) ei ej)
      · have ci := c i (by omega)
        have cj := c j (by omega)
        rw [ci.2.2.1] at ei
        rw [cj.2.2.1] at ej
        rw [ci.2.1, cj.2.1] at e8
        exact b6 i j (by omega) (by omega) ei ej e8
  · rw [h60, h10]
    obtain ⟨o1, j, j1, j2⟩ := b7 o (by omega)
    exact ⟨o1, j, by omega, j2⟩
  · exact (b8 c_ (by omega)).of fun k hk => by rw [hc k hk]
/-- an input or a latch more -/
theorem Bd_leaf {R R2 : Nat → Nat → Int32} {s s2 : Nat → Nat} {κ x8 x48 : Int32} {oo : Nat} (hB : Bd R s) (hκ : κ = 0 ∨ κ = 1) (h1 : s 1 < 48) (h2 : s 2 < 40)
    (e1 : s2 1 = s 1 + 1) (e2 : s2 2 = s 2 + 1) (e5 : s2 5 = s 5) (e6 : s2 6 = s 6) (e8 : s2 8 = s2 7)
    (r2 : R2 2 = upd (R 2) (s 1) κ) (r3 : R2 3 = upd (R 3) (s 1) (-1)) (r4 : R2 4 = upd (R 4) (s 1) (-1)) (r5 : R2 5 = upd (R 5) (s 1) (nI oo)) (r7 : R2 7 = upd (R 7) (s 2) (nI (s 1))) (r8 : R2 8 = upd (R 8) (s 2) x8) (r9 : ∀ l, l < s 4 → R2 9 l = R 9 l) (r10 : R2 10 = R 10)
    (r46 : R2 46 = upd (R 46) (s 2) κ) (r47 : R2 47 = upd (R 47) (s 2) (nI (s 1))) (r48 : R2 48 = upd (R 48) (s 2) x48) (r49 : ∀ j, j < s 2 + 1 → R2 49 j = R2 48 j) (r50 : R2 50 = upd (R 50) (s 2) (-1)) (r51 : R2 51 = R 51) (r52 : R2 52 = R 52) (r53 : R2 53 = R 53) (r54 : R2 54 = R 54)
    (r56 : R2 56 = upd (R 56) (s 1) κ) (r57 : R2 57 = upd (R 57) (s 1) (-1)) (r58 : R2 58 = upd (R 58) (s 1) (-1)) (r59 : R2 59 = upd (R 59) (s 1) (nI (s 2))) (r60 : R2 60 = R 60) (hc : ∀ k, cellK k → R2 k = R k)
    (hk : (κ = 0 ∧ s 3 < 6 ∧ s2 3 = s 3 + 1 ∧ s2 4 = s 4 ∧ s2 7 = s 7 ∧ oo = s 3 ∧ x8 = -1 ∧ x48 = 0) ∨
      (κ = 1 ∧ s 4 < 6 ∧ s2 3 = s 3 ∧ s2 4 = s 4 + 1 ∧ (∃ a : Nat, a < 2 ∧ x48 = nI a ∧ s2 7 = s 7 + a * 2 ^ s 4) ∧ oo = s 4 ∧ x8 = nI (s 4) ∧ R2 9 (s 4) = -1)) : Bd R2 s2 := by
  have hB' := hB
  obtain ⟨⟨n1, n2, n3, n4, n5, n6, n7, n8, n9⟩, ⟨g1, g2, g3⟩, b3, b4, b5, b6, b7, b8⟩ := hB'
  have bits : ∀ l, l < s 4 → s2 7 / 2 ^ l % 2 = s 7 / 2 ^ l % 2 := fun l hl => by
    rcases hk with ⟨_, _, _, _, q, _⟩ | ⟨_, _, _, _, ⟨a, _, _, q⟩, _⟩
    · rw [q]
    · rw [q]
      obtain ⟨d, hd⟩ : ∃ d, s 4 = l + 1 + d := ⟨s 4 - (l + 1), by omega⟩
      rw [hd, show a * 2 ^ (l + 1 + d) = 2 ^ l * (2 * (a * 2 ^ d)) by rw [Nat.pow_add, Nat.pow_succ]; simp only [Nat.mul_comm, Nat.mul_left_comm, Nat.mul_assoc], Nat.add_mul_div_left _ _ (Nat.two_pow_pos l)]
      omega
  have hE : Ext R R2 s s2 := by
    refine ⟨⟨by omega, by omega, by rcases hk with z | z <;> omega, e8, bits⟩, fun m hm => ?_, fun i hi => ?_, r9⟩
    · have ne : ¬ m = s 1 := by omega
      rw [r2, r3, r4, r5, r59, pk_un ne, pk_un ne, pk_un ne, pk_un ne, pk_un ne]
      exact ⟨rfl, rfl, rfl, rfl, rfl⟩
    · have ne : ¬ i = s 2 := by omega
      have r49i := r49 i (by omega)
      exact ⟨by rw [r7, pk_un ne], by rw [r8, pk_un ne], by rw [r46, pk_un ne], by rw [r47, pk_un ne], by rw [r48, pk_un ne], r49i, by rw [r50, pk_un ne], by rw [r51], by rw [r52], by rw [r53], by rw [r54]⟩
  have cIo : cI (R2 46) (s 2) = cI (R 46) (s 2) := cI_congr fun j hj => (hE.2.2.1 j hj).2.2.1
  have k46 : R2 46 (s 2) = κ := by rw [r46, pk_us]
  have k7 : R2 7 (s 2) = nI (s 1) := by rw [r7, pk_us]
  have k49 := r49 (s 2) (by omega)
  have k48 : R2 48 (s 2) = x48 := by rw [r48, pk_us]
  have cl : (nI (s 1)).toNatClampNeg = s 1 := nI_clamp (by omega)
  refine Bd_add hB hE e2 ?_ ?_ ?_ ?_ ?_ e5 e6 r10 r60 hc
  · refine ⟨by omega, by omega, ?_, ?_, by omega, by omega, ?_, ?_, ?_⟩
    · rcases hk with z | z <;> omega
    · rcases hk with z | z <;> omega
    · rcases hk with ⟨_, _, _, q4, q, _⟩ | ⟨_, _, _, q4, ⟨a, ha, _, q⟩, _⟩
      · rw [q, q4]; exact n7
      · rw [q, q4, Nat.pow_succ]
        have : a * 2 ^ s 4 ≤ 1 * 2 ^ s 4 := Nat.mul_le_mul_right _ (by omega)
        omega
    · rw [e8]
      rcases hk with ⟨_, _, _, q4, q, _⟩ | ⟨_, _, _, q4, ⟨a, ha, _, q⟩, _⟩
      · rw [q, q4]; exact n7
      · rw [q, q4, Nat.pow_succ]
        have : a * 2 ^ s 4 ≤ 1 * 2 ^ s 4 := Nat.mul_le_mul_right _ (by omega)
        omega
    · rw [e2, cI, cIo, k46, ← n9]
      rcases hk with ⟨q, _, q3, _⟩ | ⟨q, _, q3, _⟩
      · rw [q, if_pos rfl]; exact q3
      · rw [q, if_neg (by decide)]; exact q3
  · refine ⟨⟨rfl, fun j hj => ?_⟩, ⟨by show s2 1 ≤ 48; omega, fun j hj => ?_⟩, fun j hj e => ?_⟩
    · have hj : j < s2 1 := hj
      show (R2 2 j = 0 ∨ R2 2 j = 1 ∨ R2 2 j = 2 ∨ R2 2 j = 3) ∧ R2 56 j = km (R2 2 j) ∧ R2 57 j = R2 3 j ∧ R2 58 j = R2 4 j
      rw [r2, r3, r4, r56, r57, r58]
      by_cases e : j = s 1
      · rw [e, pk_us, pk_us, pk_us, pk_us, pk_us, pk_us]
        rcases hκ with z | z
        · rw [z]; exact ⟨.inl rfl, rfl, rfl, rfl⟩
        · rw [z]; exact ⟨.inr (.inl rfl), rfl, rfl, rfl⟩
      · rw [pk_un e, pk_un e, pk_un e, pk_un e, pk_un e, pk_un e]
        exact g1.2 j (by show j < s 1; omega)
    · have hj : j < s2 1 := hj
      show (R2 2 j = 2 → isN j (R2 3 j)) ∧ (R2 2 j = 3 → isN j (R2 3 j) ∧ isN j (R2 4 j))
      rw [r2, r3, r4]
      by_cases e : j = s 1
      · rw [e, pk_us]
        rcases hκ with z | z
        · rw [z]; exact ⟨fun y => absurd y (by decide), fun y => absurd y (by decide)⟩
        · rw [z]; exact ⟨fun y => absurd y (by decide), fun y => absurd y (by decide)⟩
      · rw [pk_un e, pk_un e, pk_un e]
        exact g2.2 j (by show j < s 1; omega)
    · have hj : j < s2 1 := hj
      have e : R2 2 j = 3 := e
      show ¬ R2 3 j = R2 4 j
      rw [r2] at e
      by_cases q : j = s 1
      · rw [q, pk_us] at e
        rcases hκ with z | z <;> rw [z] at e <;> exact absurd e (by decide)
      · rw [pk_un q] at e
        rw [r3, r4, pk_un q, pk_un q]
        exact g3 j (by show j < s 1; omega) e
  · refine ⟨by rw [k7, r47, pk_us], by rw [k7]; exact ⟨s 1, by omega, rfl⟩, ?_⟩
    have q2 : R2 2 (R2 7 (s 2)).toNatClampNeg = κ := by rw [k7, cl, r2, pk_us]
    have q59 : R2 59 (R2 7 (s 2)).toNatClampNeg = nI (s 2) := by rw [k7, cl, r59, pk_us]
    have q5 : R2 5 (R2 7 (s 2)).toNatClampNeg = nI oo := by rw [k7, cl, r5, pk_us]
    have k8 : R2 8 (s 2) = x8 := by rw [r8, pk_us]
    rcases hk with ⟨z, _, _, _, _, z1, z2, z3⟩ | ⟨z, _, _, z4, ⟨a, ha, z3, zb⟩, z1, z2, z9⟩
    · exact .inl ⟨k46.trans z, k8.trans z2, k48.trans z3, (k49.trans k48).trans z3, q2.trans z, q59, by rw [q5, z1, cIo, ← n9]⟩
    · have bt : (s 7 + a * 2 ^ s 4) / 2 ^ s 4 % 2 = a := by
        rw [Nat.add_mul_div_right _ _ (Nat.two_pow_pos _), Nat.div_eq_of_lt n7]
        omega
      refine .inr (.inl ⟨k46.trans z, ⟨s 4, by omega, k8.trans z2, ?_, ?_, ?_, by rw [q5, z1]⟩, q2.trans z, q59⟩)
      · rw [z9, r50, pk_us]
      · rw [k48, z3, zb, bt]
      · rw [k49, k48, z3, e8, zb, bt]
  · intro m hm hm2 _
    have e : m = s 1 := by omega
    subst e
    exact ⟨s 2, by omega, by rw [r59, pk_us], k7, by rw [k46, r2, pk_us]⟩
  · rcases hk with ⟨z, _, _, z4, _⟩ | ⟨z, _, _, z4, _, _, z2, z9⟩
    · exact .inl ⟨z4, by rw [k46, z]; decide⟩
    · exact .inr ⟨z4, k46.trans z, by rw [r8, pk_us]; exact z2, z9⟩
