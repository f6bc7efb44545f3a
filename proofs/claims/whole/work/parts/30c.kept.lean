/-! What each building call leaves in order. Own work. -/
theorem Bd_fun {R R2 : Nat → Nat → Int32} {s s2 : Nat → Nat} {o p : Int32 × Gr} (hB : Bd R s) (h2 : s 2 < 40) (hRR : RR o p) (hg : grown 2 3 16 (grG R s) o) (hnx : NX 3 o.2) (hlg : LG (s 1) 2 3 o.2) (ho48 : o.2.1 ≤ 48)
    (e1 : s2 1 = o.2.1) (e2 : s2 2 = s 2 + 1) (e3 : s2 3 = s 3) (e4 : s2 4 = s 4) (e5 : s2 5 = s 5) (e6 : s2 6 = s 6) (e7 : s2 7 = s 7) (e8 : s2 8 = s 7)
    (r2 : R2 2 = o.2.2.1) (r3 : R2 3 = o.2.2.2.1) (r4 : R2 4 = o.2.2.2.2) (r5 : R2 5 = R 5) (r7 : R2 7 = upd (R 7) (s 2) o.1) (r8 : R2 8 = upd (R 8) (s 2) (-1)) (r9 : R2 9 = R 9) (r10 : R2 10 = R 10)
    (r46 : R2 46 = upd (R 46) (s 2) 2) (r47 : R2 47 = upd (R 47) (s 2) p.1) (r48 : R2 48 = upd (R 48) (s 2) 0) (r49 : ∀ j, j < s 2 + 1 → R2 49 j = R2 48 j) (r50 : R2 50 = upd (R 50) (s 2) (-1)) (r51 : ∀ i, i < s 2 → R2 51 i = R 51 i) (r52 : ∀ i, i < s 2 → R2 52 i = R 52 i) (r53 : ∀ i, i < s 2 → R2 53 i = R 53 i) (r54 : ∀ i, i < s 2 → R2 54 i = R 54 i)
    (r56 : R2 56 = p.2.2.1) (r57 : R2 57 = p.2.2.2.1) (r58 : R2 58 = p.2.2.2.2) (r59 : ∀ j, j < s 1 → R2 59 j = R 59 j) (r60 : R2 60 = R 60) (hc : ∀ k, cellK k → R2 k = R k) (hF : FnP R2 s2 (s 2)) : Bd R2 s2 := by
  have hB' := hB
  obtain ⟨⟨n1, n2, n3, n4, n5, n6, n7, n8, n9⟩, ⟨g1, g2, g3⟩, b3, b4, b5, b6, b7, b8⟩ := hB'
  obtain ⟨w1, w2, w3, w4, w5⟩ := hg
  obtain ⟨q1, q2⟩ := hRR
  have eG : grG R2 s2 = o.2 := by unfold grG; rw [e1, r2, r3, r4]
  have eH : grH R2 s2 = p.2 := by unfold grH; rw [e1, r56, r57, r58, q2.1]
  have w2 : s 1 ≤ o.2.1 := w2
  have hE : Ext R R2 s s2 := by
    refine ⟨⟨by omega, by omega, by omega, by omega, fun l _ => by rw [e7]⟩, fun m hm => ?_, fun i hi => ?_, fun l _ => by rw [r9]⟩
    · obtain ⟨y1, y2, y3⟩ := w5 m hm
      rw [r2, r3, r4, r5, r59 m hm]
      exact ⟨y1, y2, y3, rfl, rfl⟩
    · have ne : ¬ i = s 2 := by omega
      have r49i := r49 i (by omega)
      exact ⟨by rw [r7, pk_un ne], by rw [r8, pk_un ne], by rw [r46, pk_un ne], by rw [r47, pk_un ne], by rw [r48, pk_un ne], r49i, by rw [r50, pk_un ne], r51 i hi, r52 i hi, r53 i hi, r54 i hi⟩
  have cIo : cI (R2 46) (s 2) = cI (R 46) (s 2) := cI_congr fun j hj => (hE.2.2.1 j hj).2.2.1
  have k46 : R2 46 (s 2) = 2 := by rw [r46, pk_us]
  have k48 : R2 48 (s 2) = 0 := by rw [r48, pk_us]
  refine Bd_add hB hE e2 ⟨by omega, by omega, by omega, by omega, by omega, by omega, by rw [e7, e4]; exact n7, by rw [e8, e4]; exact n7, ?_⟩ ⟨by rw [eG, eH]; exact q2, by rw [eG]; exact w1, by rw [eG]; exact hnx⟩ ⟨?_, ?_, ?_⟩ (fun m hm hm2 hk => ?_) (.inl ⟨e4, by rw [k46]; decide⟩) e5 e6 r10 r60 hc
  · rw [e2, cI, cIo, k46, if_neg (by decide), ← n9]; exact e3
  · rw [r7, r47, pk_us, pk_us]; exact q1
  · rw [r7, pk_us, e1]; exact w4
  · exact .inr (.inr ⟨k46, by rw [r8, pk_us], k48, by rw [r49 _ (by omega)]; exact k48, hF⟩)
  · have z := hlg m hm (by omega)
    rw [← r2] at z
    rcases hk with y | y <;> rw [y] at z <;> rcases z with z | z <;> exact absurd z (by decide)
/-- the same nodes and nets, the clocking begun anew -/
theorem Bd_keep {R R2 : Nat → Nat → Int32} {s s2 : Nat → Nat} (hB : Bd R s) (e1 : s2 1 = s 1) (e2 : s2 2 = s 2) (e3 : s2 3 = s 3) (e4 : s2 4 = s 4) (e7 : s2 7 = s 7) (e8 : s2 8 = s 7) (h5 : s2 5 ≤ 4) (h6 : s2 6 ≤ 8)
    (hk : ∀ k, (k = 2 ∨ k = 3 ∨ k = 4 ∨ k = 5 ∨ k = 7 ∨ k = 8 ∨ k = 9 ∨ k = 46 ∨ k = 47 ∨ k = 48 ∨ k = 50 ∨ k = 51 ∨ k = 52 ∨ k = 53 ∨ k = 54 ∨ k = 56 ∨ k = 57 ∨ k = 58 ∨ k = 59) → R2 k = R k) (r49 : ∀ j, j < s 2 → R2 49 j = R 48 j) (hO : OuP R2 s2) (hC : ∀ c, c < s2 6 → CellP R2 c) : Bd R2 s2 := by
  obtain ⟨⟨n1, n2, n3, n4, n5, n6, n7, n8, n9⟩, ⟨g1, g2, g3⟩, b3, b4, b5, b6, b7, b8⟩ := hB
  have hE : Ext R R2 s s2 := by
    refine ⟨⟨by omega, by omega, by omega, by omega, fun l _ => by rw [e7]⟩, fun m hm => ?_, fun i hi => ?_, fun l _ => by rw [hk 9 (by decide)]⟩
    · rw [hk 2 (by decide), hk 3 (by decide), hk 4 (by decide), hk 5 (by decide), hk 59 (by decide)]
      exact ⟨rfl, rfl, rfl, rfl, rfl⟩
    · rw [hk 7 (by decide), hk 8 (by decide), hk 46 (by decide), hk 47 (by decide), hk 48 (by decide), hk 50 (by decide), hk 51 (by decide), hk 52 (by decide), hk 53 (by decide), hk 54 (by decide)]
      exact ⟨rfl, rfl, rfl, rfl, rfl, r49 i hi, rfl, rfl, rfl, rfl, rfl⟩
  have eG : grG R2 s2 = grG R s := by unfold grG; rw [e1, hk 2 (by decide), hk 3 (by decide), hk 4 (by decide)]
  have eH : grH R2 s2 = grH R s := by unfold grH; rw [e1, hk 56 (by decide), hk 57 (by decide), hk 58 (by decide)]
  refine ⟨⟨by omega, by omega, by omega, by omega, h5, h6, by rw [e7, e4]; exact n7, by rw [e8, e4]; exact n7, by rw [e3, e2, hk 46 (by decide)]; exact n9⟩, ⟨by rw [eG, eH]; exact g1, by rw [eG]; exact g2, by rw [eG]; exact g3⟩, fun i hi => hE.net n1 (by omega) (b3 i (by omega)), ?_, ?_, ?_, hO, hC⟩
  · intro m hm
    rw [hk 2 (by decide), hk 59 (by decide), hk 7 (by decide), hk 46 (by decide), e2]
    exact b4 m (by omega)
  · intro l hl
    rw [hk 46 (by decide), hk 8 (by decide), hk 9 (by decide), e2]
    exact b5 l (by omega)
  · intro i j hi hj
    rw [hk 46 (by decide), hk 8 (by decide)]
    exact b6 i j (by omega) (by omega)
theorem Bd_output {R R2 : Nat → Nat → Int32} {s s2 : Nat → Nat} {a : Nat} (hB : Bd R s) (ha : a < s 2) (h5 : s 5 < 4) (e1 : s2 1 = s 1) (e2 : s2 2 = s 2) (e3 : s2 3 = s 3) (e4 : s2 4 = s 4) (e5 : s2 5 = s 5 + 1) (e6 : s2 6 = s 6) (e7 : s2 7 = s 7) (e8 : s2 8 = s 7)
    (hk : ∀ k, (k = 2 ∨ k = 3 ∨ k = 4 ∨ k = 5 ∨ k = 7 ∨ k = 8 ∨ k = 9 ∨ k = 46 ∨ k = 47 ∨ k = 48 ∨ k = 50 ∨ k = 51 ∨ k = 52 ∨ k = 53 ∨ k = 54 ∨ k = 56 ∨ k = 57 ∨ k = 58 ∨ k = 59) → R2 k = R k) (r49 : ∀ j, j < s 2 → R2 49 j = R 48 j) (r10 : R2 10 = upd (R 10) (s 5) (nI a)) (r60 : R2 60 = upd (R 60) (s 5) (nI a)) (hc : ∀ k, cellK k → R2 k = R k) : Bd R2 s2 := by
  refine Bd_keep hB e1 e2 e3 e4 e7 e8 (by omega) (by have := hB.1.2.2.2.2.2.1; omega) hk r49 (fun o ho => ?_) (fun c hc_ => (hB.2.2.2.2.2.2.2 c (by omega)).of fun k z => by rw [hc k z])
  rw [r10, r60, e2]
  by_cases e : o = s 5
  · rw [e, pk_us, pk_us]; exact ⟨rfl, a, ha, rfl⟩
  · rw [pk_un e, pk_un e]; exact hB.2.2.2.2.2.2.1 o (by omega)
theorem Bd_cell {R R2 : Nat → Nat → Int32} {s s2 : Nat → Nat} {q a d : Nat} (hB : Bd R s) (hq : q ∈ pats) (ha : 1 ≤ a ∧ a ≤ 1000) (hd : d ≤ 1000) (h6 : s 6 < 8) (e1 : s2 1 = s 1) (e2 : s2 2 = s 2) (e3 : s2 3 = s 3) (e4 : s2 4 = s 4) (e5 : s2 5 = s 5) (e6 : s2 6 = s 6 + 1) (e7 : s2 7 = s 7) (e8 : s2 8 = s 7)
    (hk : ∀ k, (k = 2 ∨ k = 3 ∨ k = 4 ∨ k = 5 ∨ k = 7 ∨ k = 8 ∨ k = 9 ∨ k = 46 ∨ k = 47 ∨ k = 48 ∨ k = 50 ∨ k = 51 ∨ k = 52 ∨ k = 53 ∨ k = 54 ∨ k = 56 ∨ k = 57 ∨ k = 58 ∨ k = 59) → R2 k = R k) (r49 : ∀ j, j < s 2 → R2 49 j = R 48 j) (r10 : R2 10 = R 10) (r60 : R2 60 = R 60)
    (r14 : R2 14 = upd (R 14) (s 6) (nI q)) (r15 : R2 15 = upd (R 15) (s 6) (nI a)) (r16 : R2 16 = upd (R 16) (s 6) (nI d)) (r17 : R2 17 = upd (R 17) (s 6) (nI (pinsP q))) (r18 : R2 18 = upd (R 18) (s 6) (nI (nandsP q))) (r19 : R2 19 = upd (R 19) (s 6) (nI (tabP q (2 ^ pinsP q)))) (r61 : R2 61 = upd (R 61) (s 6) (nI q)) (r62 : R2 62 = upd (R 62) (s 6) (nI a)) (r63 : R2 63 = upd (R 63) (s 6) (nI d)) : Bd R2 s2 := by
  refine Bd_keep hB e1 e2 e3 e4 e7 e8 (by have := hB.1.2.2.2.2.1; omega) (by omega) hk r49 (fun o ho => ?_) (fun c hc_ => ?_)
  · rw [r10, r60, e2]; exact hB.2.2.2.2.2.2.1 o (by omega)
  · by_cases e : c = s 6
    · subst e
      unfold CellP
      rw [r14, r15, r16, r17, r18, r19, r61, r62, r63, pk_us, pk_us, pk_us, pk_us, pk_us, pk_us, pk_us, pk_us, pk_us]
      exact ⟨rfl, rfl, rfl, ⟨q, hq, rfl, rfl, rfl, rfl⟩, ⟨a, ha.1, ha.2, rfl⟩, d, hd, rfl⟩
    · refine (hB.2.2.2.2.2.2.2 c (by omega)).of fun k z => ?_
      unfold cellK at z
      rcases z with rfl | rfl | rfl | rfl | rfl | rfl | rfl | rfl | rfl
      · rw [r14, pk_un e]
      · rw [r15, pk_un e]
      · rw [r16, pk_un e]
      · rw [r17, pk_un e]
      · rw [r18, pk_un e]
      · rw [r19, pk_un e]
      · rw [r61, pk_un e]
      · rw [r62, pk_un e]
      · rw [r63, pk_un e]
/-- other values present, and perhaps other drivers -/
theorem Bd_now {R R2 : Nat → Nat → Int32} {s s2 : Nat → Nat} (hB : Bd R s) (e1 : s2 1 = s 1) (e2 : s2 2 = s 2) (e3 : s2 3 = s 3) (e4 : s2 4 = s 4) (e5 : s2 5 = s 5) (e6 : s2 6 = s 6) (e7 : s2 7 = s 7) (h8 : s2 8 < 2 ^ s 4)
    (hk : ∀ k, (k = 2 ∨ k = 3 ∨ k = 4 ∨ k = 5 ∨ k = 7 ∨ k = 8 ∨ k = 10 ∨ k = 46 ∨ k = 47 ∨ k = 48 ∨ k = 51 ∨ k = 52 ∨ k = 53 ∨ k = 54 ∨ k = 56 ∨ k = 57 ∨ k = 58 ∨ k = 59 ∨ k = 60) → R2 k = R k) (hc : ∀ k, cellK k → R2 k = R k)
    (h9 : ∀ l, l < s 4 → R2 9 l = -1 ∨ ∃ j : Nat, j < s 2 ∧ R2 9 l = nI j)
    (hn : ∀ i, i < s 2 → (¬ R 46 i = 1 → R2 49 i = 0) ∧ (R 46 i = 1 → ∀ l, l < s 4 → R 8 i = nI l → R2 49 i = nI (s2 8 / 2 ^ l % 2) ∧ R2 9 l = R2 50 i)) : Bd R2 s2 := by
  obtain ⟨⟨n1, n2, n3, n4, n5, n6, n7, n8, n9⟩, ⟨g1, g2, g3⟩, b3, b4, b5, b6, b7, b8⟩ := hB
  have eG : grG R2 s2 = grG R s := by unfold grG; rw [e1, hk 2 (by decide), hk 3 (by decide), hk 4 (by decide)]
  have eH : grH R2 s2 = grH R s := by unfold grH; rw [e1, hk 56 (by decide), hk 57 (by decide), hk 58 (by decide)]
  refine ⟨⟨by omega, by omega, by omega, by omega, by omega, by omega, by rw [e7, e4]; exact n7, by rw [e4]; exact h8, by rw [e3, e2, hk 46 (by decide)]; exact n9⟩, ⟨by rw [eG, eH]; exact g1, by rw [eG]; exact g2, by rw [eG]; exact g3⟩, fun i hi => ?_, ?_, ?_, ?_, ?_, fun c z => (b8 c (by omega)).of fun k y => by rw [hc k y]⟩
  · have hi : i < s 2 := by omega
    obtain ⟨p1, p2, p3⟩ := b3 i hi
    obtain ⟨m1, m2⟩ := hn i hi
    unfold NetP InP LaP FnP nv
    rw [hk 7 (by decide), hk 47 (by decide), hk 46 (by decide), hk 8 (by decide), hk 48 (by decide), hk 2 (by decide), hk 59 (by decide), hk 5 (by decide), hk 51 (by decide), hk 52 (by decide), hk 53 (by decide), hk 54 (by decide), eG, e1, e4, e7]
    refine ⟨p1, p2, ?_⟩
    rcases p3 with ⟨y1, y2, y3, y4, y5, y6, y7⟩ | ⟨y1, ⟨l, l1, l2, l3, l4, l5, l6⟩, y2, y3⟩ | ⟨y1, y2, y3, y4, y5⟩
    · exact .inl ⟨y1, y2, y3, m1 (by rw [y1]; decide), y5, y6, y7⟩
    · obtain ⟨u1, u2⟩ := m2 y1 l l1 l2
      exact .inr (.inl ⟨y1, ⟨l, l1, l2, u2, l4, u1, l6⟩, y2, y3⟩)
    · exact .inr (.inr ⟨y1, y2, y3, m1 (by rw [y1]; decide), y5⟩)
  · intro m hm
    rw [hk 2 (by decide), hk 59 (by decide), hk 7 (by decide), hk 46 (by decide), e2]
    exact b4 m (by omega)
  · intro l hl
    rw [hk 46 (by decide), hk 8 (by decide), e2]
    exact ⟨(b5 l (by omega)).1, h9 l (by omega)⟩
  · intro i j hi hj
    rw [hk 46 (by decide), hk 8 (by decide)]
    exact b6 i j (by omega) (by omega)
  · intro o ho
    rw [hk 60 (by decide), hk 10 (by decide), e2]
    exact b7 o (by omega)
