/-! Rows of latches as longs. Own work. -/
theorem l_cnt : ∀ k, k < 64 → (((nI k).toInt64 &&& 63).toBitVec.smod 64).toNat = k := by decide +kernel
theorem l_shrN {a k : Nat} (ha : a < 2 ^ 63) (hk : k < 64) : lN a >>> ((nI k).toInt64 &&& 63) = lN (a / 2 ^ k) := by
  apply Int64.toInt_inj.mp
  have h2 : a / 2 ^ k ≤ a := Nat.div_le_self _ _
  have h3 : (lN a >>> ((nI k).toInt64 &&& 63)).toInt = (lN a).toInt >>> k := by
    show ((lN a).toBitVec.sshiftRight (((nI k).toInt64 &&& 63).toBitVec.smod 64).toNat).toInt = _
    rw [l_cnt k hk, BitVec.toInt_sshiftRight]
    rfl
  rw [h3, pk_lT ha, pk_lT (by omega), Int.shiftRight_eq_div_pow]
  rfl
theorem l_shlN {a k : Nat} (hk : k < 64) : lN a <<< ((nI k).toInt64 &&& 63) = lN (a * 2 ^ k) := by
  apply Int64.toBitVec_inj.mp
  rw [Int64.toBitVec_shiftLeft]
  show BitVec.ofNat 64 a <<< (((nI k).toInt64 &&& 63).toBitVec.smod 64) = BitVec.ofNat 64 (a * 2 ^ k)
  apply BitVec.eq_of_toNat_eq
  rw [BitVec.shiftLeft_eq', l_cnt k hk]
  simp [Nat.shiftLeft_eq]
theorem l_and (a b : Nat) : lN a &&& lN b = lN (a &&& b) := by
  apply Int64.toBitVec_inj.mp
  rw [Int64.toBitVec_and]
  show BitVec.ofNat 64 a &&& BitVec.ofNat 64 b = BitVec.ofNat 64 (a &&& b)
  apply BitVec.eq_of_toNat_eq
  simp [BitVec.toNat_and, Nat.and_mod_two_pow]
theorem l_mask {a k : Nat} (hk : k < 63) : lN a &&& ((1 : Int64) <<< ((nI k).toInt64 &&& 63) - 1) = lN (a % 2 ^ k) := by
  have h1 : (1 : Int64) <<< ((nI k).toInt64 &&& 63) = lN (2 ^ k) := by
    have := l_shlN (a := 1) (k := k) (by omega)
    rw [Nat.one_mul] at this
    exact this
  have h2 : lN (2 ^ k) - 1 = lN (2 ^ k - 1) := by
    obtain ⟨y, hy⟩ : ∃ y, 2 ^ k = y + 1 := ⟨2 ^ k - 1, by have := Nat.two_pow_pos k; omega⟩
    rw [hy]
    show Int64.ofNat (y + 1) - 1 = Int64.ofNat (y + 1 - 1)
    rw [Nat.add_sub_cancel, Int64.ofNat_add]
    show Int64.ofNat y + 1 - 1 = _
    rw [Int64.add_sub_cancel]
  rw [h1, h2, l_and, Nat.and_two_pow_sub_one_eq_mod]
theorem l_low {b : Nat} : (lN b).toInt32 &&& 1 = nI (b % 2) := by
  have h := pk_and (lN b).toInt32 (m := 1) 1 (by decide)
  rw [h]
  congr 1
  have e : (lN b).toInt32.toBitVec.toNat = b % 2 ^ 64 % 2 ^ 32 := by
    show ((BitVec.ofNat 64 b).signExtend 32).toNat = _
    simp [BitVec.signExtend_eq_setWidth_of_le, BitVec.toNat_setWidth]
  rw [e]
  omega
theorem l_bit {a k : Nat} (ha : a < 2 ^ 63) (hk : k < 64) : (lN a >>> ((nI k).toInt64 &&& 63)).toInt32 &&& 1 = nI (a / 2 ^ k % 2) := by rw [l_shrN ha hk, l_low]
