/-! Streams: what each gate gives, and the rows of the connections. Own work. -/
/-- bits of the pins, pin p at bit p -/
def pb (f : Nat → Bool) : Nat → Nat
  | 0 => 0
  | k + 1 => pb f k + (if f k = true then 2 ^ k else 0)
theorem pb_congr {f f' : Nat → Bool} {k : Nat} (h : ∀ p, p < k → f p = f' p) : pb f k = pb f' k := by
  induction k with
  | zero => rfl
  | succ k ih => simp only [pb]; rw [ih fun p hp => h p (by omega), h k (by omega)]
theorem pb_lt (f : Nat → Bool) (k : Nat) : pb f k < 2 ^ k := by
  induction k with
  | zero => simp [pb]
  | succ k ih => simp only [pb, Nat.pow_succ]; split <;> omega
/-- the j-th value that gate g gives -/
def rt_gv (pn : Nat → Nat) (src lt st : Nat → Nat → Nat) (cv : Nat → Nat → Bool) (j g : Nat) : Bool :=
  cv g (pb (fun p => if _h : j < lt g p then (st g p).testBit (lt g p - 1 - j) else if _h2 : lt g p = 0 ∧ ¬ src g p < g then false else rt_gv pn src lt st cv (j - lt g p) (src g p)) (pn g))
termination_by (j, g)
decreasing_by
  by_cases e : lt g p = 0
  · rw [e, Nat.sub_zero]; exact Prod.Lex.right _ (by omega)
  · exact Prod.Lex.left _ _ (by omega)
/-- the stream of a connection -/
def rt_X (gv : Nat → Nat → Bool) (src lt st : Nat) (j : Nat) : Bool := if j < lt then st.testBit (lt - 1 - j) else gv (j - lt) src
theorem rt_gv_eq {pn : Nat → Nat} {src lt st : Nat → Nat → Nat} {cv : Nat → Nat → Bool} {g : Nat} (hz : ∀ p, p < pn g → lt g p = 0 → src g p < g) (j : Nat) :
    rt_gv pn src lt st cv j g = cv g (pb (fun p => rt_X (rt_gv pn src lt st cv) (src g p) (lt g p) (st g p) j) (pn g)) := by
  rw [rt_gv]
  congr 1
  refine pb_congr fun p hp => ?_
  unfold rt_X
  by_cases e : j < lt g p
  · simp only [e, dif_pos, if_pos]
  · simp only [e, dif_neg, if_neg, not_false_eq_true]
    rw [dif_neg (fun h => h.2 (hz p hp h.1))]
/-- the row of the values a to b - 1, the last at bit 0 -/
def rowv (X : Nat → Bool) (a : Nat) : Nat → Nat
  | 0 => 0
  | k + 1 => 2 * rowv X a k + (X (a + k)).toNat
theorem rowv_lt (X : Nat → Bool) (a k : Nat) : rowv X a k < 2 ^ k := by
  induction k with
  | zero => simp [rowv]
  | succ k ih =>
    simp only [rowv, Nat.pow_succ]
    have : (X (a + k)).toNat ≤ 1 := by cases X (a + k) <;> decide
    omega
theorem rowv_first (X : Nat → Bool) (a k : Nat) : rowv X a (k + 1) = (X a).toNat * 2 ^ k + rowv X (a + 1) k := by
  induction k generalizing a with
  | zero => simp [rowv]
  | succ k ih =>
    rw [rowv, ih a]
    simp only [rowv]
    rw [show a + (k + 1) = a + 1 + k by omega, Nat.mul_add, Nat.pow_succ, ← Nat.add_assoc, Nat.mul_comm (2 ^ k) 2, ← Nat.mul_assoc, ← Nat.mul_assoc, Nat.mul_comm 2 (X a).toNat]
theorem rowv_take (X : Nat → Bool) (a k : Nat) : rowv X a (k + 1) / 2 ^ k = (X a).toNat ∧ rowv X a (k + 1) % 2 ^ k = rowv X (a + 1) k := by
  have h := rowv_lt X (a + 1) k
  rw [rowv_first, Nat.mul_comm]
  exact ⟨by rw [Nat.mul_add_div (Nat.two_pow_pos k), Nat.div_eq_of_lt h, Nat.add_zero], by rw [Nat.mul_add_mod, Nat.mod_eq_of_lt h]⟩
theorem rowv_congr {X Y : Nat → Bool} {a k : Nat} (h : ∀ i, a ≤ i → i < a + k → X i = Y i) : rowv X a k = rowv Y a k := by
  induction k with
  | zero => rfl
  | succ k ih => simp only [rowv]; rw [ih fun i h1 h2 => h i h1 (by omega), h (a + k) (by omega) (by omega)]
theorem rowv_start {st lt : Nat} (h : st < 2 ^ lt) {gv : Nat → Nat → Bool} {s : Nat} : rowv (rt_X gv s lt st) 0 lt = st := by
  have key : ∀ k, k ≤ lt → rowv (rt_X gv s lt st) 0 k = st / 2 ^ (lt - k) := by
    intro k
    induction k with
    | zero => intro _; rw [Nat.sub_zero, Nat.div_eq_of_lt h]; rfl
    | succ k ih =>
      intro hk
      rw [rowv, ih (by omega), Nat.zero_add]
      unfold rt_X
      rw [if_pos (by omega), show lt - k = (lt - (k + 1)) + 1 by omega, show lt - 1 - k = lt - (k + 1) by omega]
      rw [Nat.pow_succ, ← Nat.div_div_eq_div_mul, Nat.testBit_eq_decide_div_mod_eq]
      have := Nat.div_add_mod (st / 2 ^ (lt - (k + 1))) 2
      by_cases e : st / 2 ^ (lt - (k + 1)) % 2 = 1
      · simp only [e, decide_true, Bool.toNat_true]; omega
      · simp only [e, decide_false, Bool.toNat_false]; omega
  have := key lt (Nat.le_refl _)
  rw [this, Nat.sub_self]; simp
/-- moves made so far, below the legal moves: as long as one is owed, one can be made -/
theorem rt_prog {gt : Nat → Prop} {pn : Nat → Nat} {src lt : Nat → Nat → Nat} {mv m : Nat → Nat} (hgn : ∀ g, gt g → g < 48) (hz : ∀ g p, gt g → p < pn g → lt g p = 0 → src g p < g)
    (hleg : ∀ g p, gt g → p < pn g → gt (src g p) → mv g ≤ mv (src g p) + lt g p) (hin : ∀ g p, gt g → p < pn g → ¬ gt (src g p) → mv g ≤ lt g p)
    (hm : ∀ g, gt g → m g ≤ mv g) (how : ∃ g, gt g ∧ m g < mv g) :
    ∃ g, gt g ∧ m g < mv g ∧ ∀ p, p < pn g → (gt (src g p) → m g < m (src g p) + lt g p) ∧ (¬ gt (src g p) → m g < lt g p) := by
  have ⟨g0, h0, l0⟩ := how
  have ⟨k, ⟨g, hg, hl, ek⟩, hk⟩ := rt_min (p := fun k => ∃ g, gt g ∧ m g < mv g ∧ k = 48 * (m g : Int) + (g : Int)) 0 (fun k ⟨g, _, _, e⟩ => by omega) ⟨_, g0, h0, l0, rfl⟩
  refine ⟨g, hg, hl, fun p hp => ⟨fun hs => ?_, fun hs => by have := hin g p hg hp hs; omega⟩⟩
  have h1 := hleg g p hg hp hs
  by_cases e : m (src g p) < mv (src g p)
  · have h2 := hk _ ⟨src g p, hs, e, rfl⟩
    have h3 := hgn g hg
    by_cases e2 : lt g p = 0
    · have := hz g p hg hp e2
      omega
    · have := hgn _ hs
      omega
  · have := hm _ hs
    omega
