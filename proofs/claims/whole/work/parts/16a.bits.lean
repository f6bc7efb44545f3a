/-! Bits as numbers. Own work. -/
theorem nsh : ∀ k, k < 32 → ((nI k &&& 31).toBitVec.smod 32).toNat = k := by decide +kernel
theorem shrN {a k : Nat} (ha : a < 2 ^ 31) (hk : k < 32) : nI a >>> (nI k &&& 31) = nI (a / 2 ^ k) := pk_shrN ha _ k (nsh k hk)
theorem shlN {a k : Nat} (hk : k < 32) (h : a * 2 ^ k < 2 ^ 32) : nI a <<< (nI k &&& 31) = nI (a * 2 ^ k) := pk_shlN _ k (nsh k hk) h
theorem nx_or (a b : Nat) : nI a ||| nI b = nI (a ||| b) := by
  apply Int32.toBitVec_inj.mp
  rw [Int32.toBitVec_or]
  show BitVec.ofNat 32 a ||| BitVec.ofNat 32 b = BitVec.ofNat 32 (a ||| b)
  apply BitVec.eq_of_toNat_eq
  simp [BitVec.toNat_or, Nat.or_mod_two_pow]
theorem nx_xor (a b : Nat) : nI a ^^^ nI b = nI (a ^^^ b) := by
  apply Int32.toBitVec_inj.mp
  rw [Int32.toBitVec_xor]
  show BitVec.ofNat 32 a ^^^ BitVec.ofNat 32 b = BitVec.ofNat 32 (a ^^^ b)
  apply BitVec.eq_of_toNat_eq
  simp [BitVec.toNat_xor, Nat.xor_mod_two_pow]
theorem or_add (a k : Nat) {b : Nat} (h : b < 2 ^ k) : nI (a * 2 ^ k) ||| nI b = nI (a * 2 ^ k + b) := by
  rw [nx_or, Nat.mul_comm, ← Nat.two_pow_add_eq_or_of_lt h]
theorem or_add' (a k : Nat) {b : Nat} (h : b < 2 ^ k) : nI b ||| nI (a * 2 ^ k) = nI (b + a * 2 ^ k) := by
  rw [Int32.or_comm, or_add a k h, Nat.add_comm]
theorem bitN {a k : Nat} (ha : a < 2 ^ 31) (hk : k < 32) : nI a >>> (nI k &&& 31) &&& 1 = nI (a / 2 ^ k % 2) := by rw [shrN ha hk, an1]
theorem tb_bool {a k : Nat} : (a.testBit k).toNat = a / 2 ^ k % 2 := by
  rw [Nat.testBit_eq_decide_div_mod_eq]
  by_cases e : a / 2 ^ k % 2 = 1
  · simp only [e, decide_true, Bool.toNat_true]
  · simp only [e, decide_false, Bool.toNat_false]; omega
theorem dgtI {q k : Nat} (hq : q < 2 ^ 31) (hk : k < 8) : nI q >>> (2 * nI k &&& 31) &&& 3 = nI (dgt q k) := by rw [srk hq hk, an3]; rfl
theorem dgt_lt (q k : Nat) : dgt q k < 4 := Nat.mod_lt _ (by decide)
