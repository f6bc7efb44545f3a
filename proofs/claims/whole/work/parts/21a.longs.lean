/-! Longs as numbers; latches on a way back. Own work. -/
theorem i2l01 : ∀ b, b < 2 → (nI b).toInt64 = lN b := by decide +kernel
theorem lsh1 (x : Int64) : x <<< ((1 : Int32).toInt64 &&& 63) = x <<< (1 : Int64) := by
  have e : ((1 : Int32).toInt64 &&& 63) = 1 := by decide
  rw [e]
theorem l_or (a b : Nat) : lN a ||| lN b = lN (a ||| b) := by
  apply Int64.toBitVec_inj.mp
  rw [Int64.toBitVec_or]
  show BitVec.ofNat 64 a ||| BitVec.ofNat 64 b = BitVec.ofNat 64 (a ||| b)
  apply BitVec.eq_of_toNat_eq
  simp [BitVec.toNat_or, Nat.or_mod_two_pow]
theorem l_shl (a : Nat) : lN a <<< (1 : Int64) = lN (a * 2) := by
  apply Int64.toBitVec_inj.mp
  rw [Int64.toBitVec_shiftLeft]
  show BitVec.ofNat 64 a <<< ((1 : Int64).toBitVec.smod 64) = BitVec.ofNat 64 (a * 2)
  have e : (1 : Int64).toBitVec.smod 64 = 1#64 := by decide
  rw [e]
  apply BitVec.eq_of_toNat_eq
  simp [Nat.shiftLeft_eq]
theorem l_push {a b : Nat} (hb : b < 2) : lN a <<< ((1 : Int32).toInt64 &&& 63) ||| (nI b).toInt64 = lN (2 * a + b) := by
  rw [i2l01 b hb, lsh1, l_shl, l_or]
  have h := Nat.two_pow_add_eq_or_of_lt (i := 1) (b := b) hb a
  rw [show (2 : Nat) ^ 1 = 2 from rfl] at h
  rw [Nat.mul_comm a 2, ← h]
/-- following latches back: the node, how many, their first values (the last one at bit 0) -/
def chn (la : Nat → Bool) (nx fb : Nat → Nat) (m : Nat) : Nat → Nat × Nat × Nat
  | 0 => (m, 0, 0)
  | k + 1 => if la (chn la nx fb m k).1 = true then (nx (chn la nx fb m k).1, (chn la nx fb m k).2.1 + 1, 2 * (chn la nx fb m k).2.2 + fb (chn la nx fb m k).1) else chn la nx fb m k
theorem chn_t {la : Nat → Bool} {nx fb : Nat → Nat} {m k : Nat} (h : la (chn la nx fb m k).1 = true) : chn la nx fb m (k + 1) = (nx (chn la nx fb m k).1, (chn la nx fb m k).2.1 + 1, 2 * (chn la nx fb m k).2.2 + fb (chn la nx fb m k).1) := if_pos h
theorem chn_f {la : Nat → Bool} {nx fb : Nat → Nat} {m k : Nat} (h : la (chn la nx fb m k).1 = false) : chn la nx fb m (k + 1) = chn la nx fb m k := if_neg (by rw [h]; exact fun z => Bool.noConfusion z)
theorem chn_more {la : Nat → Bool} {nx fb : Nat → Nat} {m k : Nat} (h : la (chn la nx fb m k).1 = false) : ∀ j, chn la nx fb m (k + j) = chn la nx fb m k
  | 0 => rfl
  | j + 1 => by
    have := chn_more h j
    rw [← Nat.add_assoc, chn_f (by rw [this]; exact h), this]
theorem chn_cnt {la : Nat → Bool} {nx fb : Nat → Nat} {m : Nat} (k : Nat) (h : ∀ j, j < k → la (chn la nx fb m j).1 = true) : (chn la nx fb m k).2.1 = k := by
  induction k with
  | zero => rfl
  | succ k ih => rw [chn_t (h k (by omega)), ih fun j hj => h j (by omega)]
theorem chn_le {la : Nat → Bool} {nx fb : Nat → Nat} {m : Nat} (k : Nat) : (chn la nx fb m k).2.1 ≤ k := by
  induction k with
  | zero => exact Nat.le_refl _
  | succ k ih =>
    cases e : la (chn la nx fb m k).1
    · rw [chn_f e]; omega
    · rw [chn_t e]; simp only; omega
theorem fol_last {la : Nat → Bool} {nx : Nat → Nat} : ∀ (k m : Nat), fol la nx (k + 1) m = if la (fol la nx k m) = true then nx (fol la nx k m) else fol la nx k m
  | 0, m => rfl
  | k + 1, m => by
    cases e : la m
    · rw [fol_n e, fol_n e, e]; rfl
    · rw [fol_s e, fol_s e]; exact fol_last k (nx m)
theorem chn_fol {la : Nat → Bool} {nx fb : Nat → Nat} {m : Nat} (k : Nat) : (chn la nx fb m k).1 = fol la nx k m := by
  induction k with
  | zero => rfl
  | succ k ih =>
    rw [fol_last, ← ih]
    cases e : la (chn la nx fb m k).1
    · rw [chn_f e]; rfl
    · rw [chn_t e]; rfl
theorem chn_row {la : Nat → Bool} {nx fb : Nat → Nat} {m : Nat} (hb : ∀ x, fb x < 2) (k : Nat) : (chn la nx fb m k).2.2 < 2 ^ (chn la nx fb m k).2.1 := by
  induction k with
  | zero => show 0 < 1; omega
  | succ k ih =>
    cases e : la (chn la nx fb m k).1
    · rw [chn_f e]; exact ih
    · rw [chn_t e]
      have := hb (chn la nx fb m k).1
      simp only [Nat.pow_succ]; omega
