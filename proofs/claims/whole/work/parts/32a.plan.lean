/-! The mapped circuit, from the rows: pure. Own work. -/
def kdF (R : Nat → Nat → Int32) (j : Nat) : Nat := (R 2 j).toNatClampNeg
def pxF (R : Nat → Nat → Int32) (j : Nat) : Nat := (R 3 j).toNatClampNeg
def pyF (R : Nat → Nat → Int32) (j : Nat) : Nat := (R 4 j).toNatClampNeg
def pF (R : Nat → Nat → Int32) (c : Nat) : Nat := (R 14 c).toNatClampNeg
def aF (R : Nat → Nat → Int32) (c : Nat) : Nat := (R 15 c).toNatClampNeg
def dlF (R : Nat → Nat → Int32) (c : Nat) : Nat := (R 16 c).toNatClampNeg
noncomputable def needF (R : Nat → Nat → Int32) (s : Nat → Nat) (j : Nat) : Bool := @decide (NeedP (s 5) (s 4) (ondF R) (drvF R) j) (Classical.propDecidable _)
theorem needF_iff {R : Nat → Nat → Int32} {s : Nat → Nat} {j : Nat} : needF R s j = true ↔ NeedP (s 5) (s 4) (ondF R) (drvF R) j := by
  unfold needF
  exact @decide_eq_true_iff _ (Classical.propDecidable _)
theorem Bd.gk {R : Nat → Nat → Int32} {s : Nat → Nat} (hB : Bd R s) : GK (grG R s) (kdF R) (pxF R) (pyF R) ∧ GKM (grH R s) (kdF R) (pxF R) (pyF R) := by
  have n1 := hB.1.1
  have key : ∀ j, j < s 1 → R 2 j = nI (kdF R j) ∧ R 56 j = nI (kM (kdF R j)) ∧ kdF R j < 4 ∧ ((kdF R j = 2 ∨ kdF R j = 3) → R 3 j = nI (pxF R j) ∧ pxF R j < j) ∧ (kdF R j = 3 → R 4 j = nI (pyF R j) ∧ pyF R j < j ∧ ¬ pxF R j = pyF R j) := fun j hj => by
    obtain ⟨k1, k2, _, _⟩ := hB.2.1.1.2 j hj
    obtain ⟨w1, w2⟩ := hB.2.1.2.1.2 j hj
    have k1 : R 2 j = 0 ∨ R 2 j = 1 ∨ R 2 j = 2 ∨ R 2 j = 3 := k1
    have k2 : R 56 j = km (R 2 j) := k2
    have w1 : R 2 j = 2 → isN j (R 3 j) := w1
    have w2 : R 2 j = 3 → isN j (R 3 j) ∧ isN j (R 4 j) := w2
    have nx : R 2 j = 3 → ¬ R 3 j = R 4 j := hB.2.1.2.2 j hj
    have num : ∀ {x : Int32}, isN j x → x = nI x.toNatClampNeg ∧ x.toNatClampNeg < j := fun {x} ⟨a, a1, a2⟩ => by
      rw [a2, nI_clamp (by omega)]; exact ⟨rfl, a1⟩
    unfold kdF pxF pyF
    rw [k2]
    rcases k1 with z | z | z | z
    · rw [z]; exact ⟨rfl, rfl, by decide, fun y => absurd y (by decide), fun y => absurd y (by decide)⟩
    · rw [z]; exact ⟨rfl, rfl, by decide, fun y => absurd y (by decide), fun y => absurd y (by decide)⟩
    · have m := num (w1 z)
      rw [z]; exact ⟨rfl, rfl, by decide, fun _ => m, fun y => absurd y (by decide)⟩
    · have m := num (w2 z).1
      have m2 := num (w2 z).2
      have ne : ¬ (R 3 j).toNatClampNeg = (R 4 j).toNatClampNeg := fun y => nx z (by rw [m.1, m2.1, y])
      rw [z]; exact ⟨rfl, rfl, by decide, fun _ => m, fun _ => ⟨m2.1, m2.2, ne⟩⟩
  refine ⟨fun j hj => ?_, fun j hj => ?_⟩
  · obtain ⟨a, b, c, d, e⟩ := key j hj
    exact ⟨a, c, d, e⟩
  · obtain ⟨a, b, c, d, e⟩ := key j hj
    obtain ⟨_, _, k3, k4⟩ := hB.2.1.1.2 j hj
    have k3 : R 57 j = R 3 j := k3
    have k4 : R 58 j = R 4 j := k4
    refine ⟨b, c, fun y => ?_, fun y => ?_⟩
    · show R 57 j = _ ∧ _
      rw [k3]; exact d y
    · show R 58 j = _ ∧ _
      rw [k4]; exact e y
theorem Bd.cells {R : Nat → Nat → Int32} {s : Nat → Nat} (hB : Bd R s) : CellsC (s 6) (R 14) (R 15) (R 17) (R 18) (pF R) (aF R) ∧ CellsM (s 6) (R 61) (R 62) (pF R) (aF R) ∧ ∀ c, c < s 6 → R 16 c = nI (dlF R c) ∧ dlF R c ≤ 1000 ∧ R 63 c = nI (dlF R c) ∧ R 19 c = nI (tabP (pF R c) (2 ^ pinsP (pF R c))) := by
  have key : ∀ c, c < s 6 → pF R c ∈ pats ∧ R 14 c = nI (pF R c) ∧ R 61 c = R 14 c ∧ R 62 c = R 15 c ∧ R 63 c = R 16 c ∧ R 15 c = nI (aF R c) ∧ aF R c ≤ 1000 ∧ R 17 c = nI (pinsP (pF R c)) ∧ R 18 c = nI (nandsP (pF R c)) ∧ R 16 c = nI (dlF R c) ∧ dlF R c ≤ 1000 ∧ R 19 c = nI (tabP (pF R c) (2 ^ pinsP (pF R c))) := fun c hc => by
    obtain ⟨p1, p2, p3, ⟨q, q1, q2, q3, q4, q5⟩, ⟨a, a1, a2, a3⟩, d, d1, d2⟩ := hB.2.2.2.2.2.2.2 c hc
    have e1 : pF R c = q := by unfold pF; rw [q2, nI_clamp (by have := pats_lt q1; omega)]
    have e2 : aF R c = a := by unfold aF; rw [a3, nI_clamp (by omega)]
    have e3 : dlF R c = d := by unfold dlF; rw [d2, nI_clamp (by omega)]
    rw [e1, e2, e3]
    exact ⟨q1, q2, p1, p2, p3, a3, a2, q3, q4, d2, d1, q5⟩
  refine ⟨fun c hc => ?_, fun c hc => ?_, fun c hc => ?_⟩
  · obtain ⟨a1, a2, a3, a4, a5, a6, a7, a8, a9, a10, a11, a12⟩ := key c hc
    exact ⟨a1, a2, a6, a7, a8, a9⟩
  · obtain ⟨a1, a2, a3, a4, a5, a6, a7, a8, a9, a10, a11, a12⟩ := key c hc
    exact ⟨a1, a3.trans a2, a4.trans a6, a7⟩
  · obtain ⟨a1, a2, a3, a4, a5, a6, a7, a8, a9, a10, a11, a12⟩ := key c hc
    exact ⟨a10, a11, a5.trans a10, a12⟩
theorem Bd.cover {R : Nat → Nat → Int32} {s : Nat → Nat} (hB : Bd R s) (h6 : ∃ c, c < s 6 ∧ R 14 c = nI 6) (h23 : ∃ c, c < s 6 ∧ R 14 c = nI 23) : ∃ cost, CovA (grG R s) (kdF R) (pxF R) (pyF R) (needF R s) (pF R) (aF R) (s 6) cost := by
  have n1 := hB.1.1
  obtain ⟨hK, _⟩ := hB.gk
  obtain ⟨hC, _⟩ := hB.cells
  have hw := hK.wf
  obtain ⟨cost, h⟩ := cover_ex (rt := rtF (s 1) (kdF R) (pxF R) (pyF R) (needF R s)) (p := pF R) (ar := aF R) (cells := s 6) (Lv := fun x => lvF (s 1) (kdF R) (pxF R) (pyF R) (needF R s) x = true) hw (lv_cl hK) (fun c hc => (hC c hc).1) (fun c hc => (hC c hc).2.2.2.1)
    (by obtain ⟨c, c1, c2⟩ := h6; exact ⟨c, c1, by unfold pF; rw [c2]; rfl⟩) (by obtain ⟨c, c1, c2⟩ := h23; exact ⟨c, c1, by unfold pF; rw [c2]; rfl⟩)
    (fun m hm hl => by have hm : m < s 1 := hm; have := lv_sz (n := s 1) hw hm hl; omega)
  exact ⟨cost, h⟩
/-- no way back through latches is longer than there are latches -/
theorem fol_out {la : Nat → Bool} {nx drv nd ol : Nat → Nat} {n lc : Nat} (hlc : lc ≤ 6) (h1 : ∀ m, m < n → la m = true → ol m < lc ∧ nx m = drv (ol m)) (h2 : ∀ l, l < lc → nd l < n ∧ la (nd l) = true ∧ nx (nd l) = drv l) (h3 : ∀ l, l < lc → drv l < n)
    (hr : ∀ l, l < lc → la (fol la nx lc (drv l)) = false) : ∀ x, x < n → la (fol la nx 6 x) = false := by
  have alike : ∀ k m, m < n → la m = true → fol la nx (k + 1) m = fol la nx (k + 1) (nd (ol m)) := fun k m hm hl => by
    obtain ⟨a1, a2⟩ := h1 m hm hl
    obtain ⟨b1, b2, b3⟩ := h2 _ a1
    rw [fol_s hl, fol_s b2, a2, b3]
  have all : ∀ l, l < lc → la (fol la nx lc (nd l)) = false := fun l hl => by
    refine rt_still (A := fun k l => la (fol la nx k (nd l)) = false) (n := lc) (fun k l _ h => by rw [fol_stop h]; exact h) (fun k hs l hl h => ?_) (lc + 1) l hl ?_
    · obtain ⟨b1, b2, b3⟩ := h2 l hl
      rw [fol_s b2, b3] at h ⊢
      cases e : la (drv l)
      · rw [fol_n e]; exact e
      · have hd := h3 l hl
        obtain ⟨a1, a2⟩ := h1 _ hd e
        rw [alike k _ hd e] at h
        have := hs _ a1 h
        cases k with
        | zero =>
          obtain ⟨c1, c2, c3⟩ := h2 _ a1
          have this : la (nd (ol (drv l))) = false := this
          rw [c2] at this; cases this
        | succ k => rw [alike k _ hd e]; exact this
    · obtain ⟨b1, b2, b3⟩ := h2 l hl
      rw [fol_s b2, b3]; exact hr l hl
  intro x hx
  cases e : la x
  · rw [fol_n e]; exact e
  · obtain ⟨a1, a2⟩ := h1 x hx e
    have := fol_more (all _ a1) (6 - lc)
    rw [show lc + (6 - lc) = 6 by omega] at this
    rw [alike 5 x hx e, this]; exact all _ a1
theorem chn_congr {la la2 : Nat → Bool} {nx fb : Nat → Nat} {n : Nat} (h : ∀ m, m < n → la m = la2 m) (hn : ∀ m, m < n → la m = true → nx m < n) {x : Nat} (hx : x < n) : ∀ k, chn la nx fb x k = chn la2 nx fb x k ∧ (chn la nx fb x k).1 < n
  | 0 => ⟨rfl, hx⟩
  | k + 1 => by
    obtain ⟨e, l⟩ := chn_congr (fb := fb) h hn hx k
    cases q : la (chn la nx fb x k).1
    · have q2 : la2 (chn la2 nx fb x k).1 = false := by rw [← e, ← h _ l]; exact q
      rw [chn_f q, chn_f q2]; exact ⟨e, l⟩
    · have q2 : la2 (chn la2 nx fb x k).1 = true := by rw [← e, ← h _ l]; exact q
      rw [chn_t q, chn_t q2, ← e]; exact ⟨rfl, hn _ l q⟩
theorem chn_src {la : Nat → Bool} {nx fb : Nat → Nat} {x : Nat} : ∀ k, ((chn la nx fb x k).2.1 = 0 ∧ (chn la nx fb x k).1 = x) ∨ (¬ (chn la nx fb x k).2.1 = 0 ∧ ∃ m, la m = true ∧ (m = x ∨ ∃ j, j < k ∧ m = (chn la nx fb x j).1) ∧ (chn la nx fb x k).1 = nx m)
  | 0 => .inl ⟨rfl, rfl⟩
  | k + 1 => by
    cases q : la (chn la nx fb x k).1
    · rw [chn_f q]
      rcases chn_src (la := la) (nx := nx) (fb := fb) (x := x) k with a | ⟨a, m, b, c, d⟩
      · exact .inl a
      · exact .inr ⟨a, m, b, c.imp id fun ⟨j, j1, j2⟩ => ⟨j, by omega, j2⟩, d⟩
    · rw [chn_t q]
      exact .inr ⟨by show ¬ _ + 1 = 0; omega, _, q, .inr ⟨k, by omega, rfl⟩, rfl⟩
/-- what a way back from node x leads to -/
def ChP (R : Nat → Nat → Int32) (s : Nat → Nat) (ch : Nat → Nat × Nat × Nat) : Prop := ∀ x, x < s 1 → (ch x).1 < s 1 ∧ ¬ R 2 (ch x).1 = 1 ∧ (ch x).2.1 ≤ 6 ∧ (ch x).2.2 < 2 ^ (ch x).2.1 ∧ (((ch x).2.1 = 0 ∧ (ch x).1 = x) ∨ (¬ (ch x).2.1 = 0 ∧ ∃ l, l < s 4 ∧ (ch x).1 = drvF R l))
theorem Bd.chain {R : Nat → Nat → Int32} {s : Nat → Nat} (hB : Bd R s) (hd : ¬ ∃ l, l < s 4 ∧ R 9 l = -1) (hr : ∀ l, l < s 4 → laN (grG R s) (fol (laN (grG R s)) (fun x => drvF R (olF R x)) (s 4) (drvF R l)) = false) :
    ChP R s (fun x => chn (laN (grG R s)) (nxC (drvF R) (olF R)) (fbC (s 7) (olF R)) x 6) ∧ (∀ x, x < s 1 → chn (laN (grH R s)) (nxC (drvF R) (olF R)) (fbC (s 7) (olF R)) x 7 = chn (laN (grG R s)) (nxC (drvF R) (olF R)) (fbC (s 7) (olF R)) x 6) ∧ FbM (grH R s) (R 48) (R 59) (fbC (s 7) (olF R)) := by
  obtain ⟨d1, d2, d3, d4, d5⟩ := hB.drv hd
  have n1 := hB.1.1
  have n2 := hB.1.2.1
  have n4 := hB.1.2.2.2.1
  have laE : ∀ m, m < s 1 → laN (grG R s) m = laN (grH R s) m := fun m hm => by
    unfold laN
    obtain ⟨k1, k2, _⟩ := hB.2.1.1.2 m hm
    rw [k2]
    rcases k1 with z | z | z | z <;> rw [z] <;> decide
  have nxl : ∀ m, m < s 1 → laN (grG R s) m = true → nxC (drvF R) (olF R) m < s 1 := fun m hm hl => (d1.1 _ (d1.2 m hm hl).2).2.2
  obtain ⟨nd, hnd⟩ : ∃ nd : Nat → Nat, ∀ l, l < s 4 → nd l < s 1 ∧ laN (grG R s) (nd l) = true ∧ nxC (drvF R) (olF R) (nd l) = drvF R l := by
    have : ∀ l, ∃ m, l < s 4 → m < s 1 ∧ laN (grG R s) m = true ∧ nxC (drvF R) (olF R) m = drvF R l := fun l => by
      by_cases hl : l < s 4
      · obtain ⟨i, i1, i2, i3, i4, i5, i6⟩ := d5 l hl
        exact ⟨_, fun _ => ⟨i4, decide_eq_true i5, by unfold nxC; rw [i6]⟩⟩
      · exact ⟨0, fun z => absurd z hl⟩
    obtain ⟨f, hf⟩ := Classical.axiomOfChoice this
    exact ⟨f, hf⟩
  have out := fol_out (la := laN (grG R s)) (nx := nxC (drvF R) (olF R)) (drv := drvF R) (nd := nd) (ol := olF R) (n := s 1) (lc := s 4) n4 (fun m hm hl => ⟨(d1.2 m hm hl).2, rfl⟩) hnd (fun l hl => (d1.1 l hl).2.2) hr
  have six : ∀ x, x < s 1 → laN (grG R s) (chn (laN (grG R s)) (nxC (drvF R) (olF R)) (fbC (s 7) (olF R)) x 6).1 = false := fun x hx => by rw [chn_fol]; exact out x hx
  refine ⟨fun x hx => ?_, fun x hx => ?_, fun m hm hl => ?_⟩
  · have c := fun k => chn_congr (fb := fbC (s 7) (olF R)) (fun m hm => rfl) nxl hx k
    refine ⟨(c 6).2, fun z => ?_, chn_le 6, chn_row (fun y => by unfold fbC; omega) 6, ?_⟩
    · have := six x hx
      unfold laN at this
      rw [decide_eq_false_iff_not] at this
      exact this z
    · rcases chn_src (la := laN (grG R s)) (nx := nxC (drvF R) (olF R)) (fb := fbC (s 7) (olF R)) (x := x) 6 with a | ⟨a, m, b, e, f⟩
      · exact .inl a
      · have hm : m < s 1 := by
          rcases e with e | ⟨j, _, e⟩
          · rw [e]; exact hx
          · rw [e]; exact (c j).2
        exact .inr ⟨a, olF R m, (d1.2 m hm b).2, f⟩
  · rw [← (chn_congr (fb := fbC (s 7) (olF R)) laE nxl hx 7).1, chn_f (six x hx)]
  · have hl2 : laN (grG R s) m = true := by rw [laE m hm]; exact hl
    obtain ⟨i, l, i1, l1, i2, i3, i4, l2, l3, l5, l6, l7, _⟩ := hB.latch hm (of_decide_eq_true hl2)
    unfold fbC
    rw [i2, (hB.node i1).2.1, l6, l7]
    exact ⟨rfl, Nat.mod_lt _ (by decide)⟩
