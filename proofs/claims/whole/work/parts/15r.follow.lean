/-! Following latches back: pure. Own work. -/
def fol (la : Nat → Bool) (nx : Nat → Nat) : Nat → Nat → Nat
  | 0, m => m
  | k + 1, m => if la m = true then fol la nx k (nx m) else m
theorem fol_s {la : Nat → Bool} {nx : Nat → Nat} {k m : Nat} (h : la m = true) : fol la nx (k + 1) m = fol la nx k (nx m) := if_pos h
theorem fol_n {la : Nat → Bool} {nx : Nat → Nat} {k m : Nat} (h : la m = false) : fol la nx k m = m := by
  cases k with
  | zero => rfl
  | succ k => exact if_neg (by rw [h]; exact fun q => Bool.noConfusion q)
theorem fol_stop {la : Nat → Bool} {nx : Nat → Nat} : ∀ {k m : Nat}, la (fol la nx k m) = false → fol la nx (k + 1) m = fol la nx k m
  | 0, m, h => fol_n h
  | k + 1, m, h => by
    cases e : la m
    · rw [fol_n e, fol_n e]
    · rw [fol_s e] at h ⊢
      rw [fol_s e]
      exact fol_stop h
theorem fol_more {la : Nat → Bool} {nx : Nat → Nat} {k m : Nat} (h : la (fol la nx k m) = false) : ∀ j, fol la nx (k + j) m = fol la nx k m
  | 0 => rfl
  | j + 1 => by
    have := fol_more h j
    rw [← Nat.add_assoc, fol_stop (by rw [this]; exact h), this]
/-- the driving nodes of all latches lead out of latches within 6 steps, if at all within the number of latches -/
theorem fol_six {la : Nat → Bool} {nx drv : Nat → Nat} {lc : Nat} (hlc : lc ≤ 6) (hx : ∀ l, l < lc → la (drv l) = true → ∃ l', l' < lc ∧ nx (drv l) = drv l') :
    (∀ l, l < lc → la (fol la nx lc (drv l)) = false) ↔ (∀ l, l < lc → la (fol la nx 6 (drv l)) = false) := by
  constructor
  · intro h l hl
    have := fol_more (h l hl) (6 - lc)
    rw [show lc + (6 - lc) = 6 by omega] at this
    rw [this]; exact h l hl
  · intro h l hl
    refine rt_still (A := fun k l => la (fol la nx k (drv l)) = false) (n := lc) (fun k l _ h => by rw [fol_stop h]; exact h) (fun k hs l hl h => ?_) 6 l hl (h l hl)
    cases e : la (drv l)
    · rw [fol_n e]; exact e
    · rw [fol_s e] at h ⊢
      have ⟨l', h1, h2⟩ := hx l hl e
      rw [h2] at h ⊢
      exact hs l' h1 h
theorem fol_ring {la : Nat → Bool} {nx drv nd : Nat → Nat} {lc nc : Nat} (hlc : lc ≤ 6) (hx : ∀ l, l < lc → la (drv l) = true → ∃ l', l' < lc ∧ nx (drv l) = drv l')
    (h1 : ∀ n, n < nc → la (nd n) = true → ∃ l, l < lc ∧ nx (nd n) = drv l) (h2 : ∀ l, l < lc → ∃ n, n < nc ∧ la (nd n) = true ∧ nx (nd n) = drv l) :
    (∀ l, l < lc → la (fol la nx lc (drv l)) = false) ↔ (∀ n, n < nc → la (fol la nx 7 (nd n)) = false) := by
  rw [fol_six hlc hx]
  constructor
  · intro h n hn
    cases e : la (nd n)
    · rw [fol_n e]; exact e
    · have ⟨l, a, b⟩ := h1 n hn e
      rw [fol_s e, b]; exact h l a
  · intro h l hl
    have ⟨n, a, b, c⟩ := h2 l hl
    have := h n a
    rw [fol_s b, c] at this
    exact this
