/-! Live nodes and their readers, from the top down: pure. Own work. -/
def usF (n : Nat) (kd px py : Nat → Nat) (need : Nat → Bool) : Nat → Nat → Nat
  | 0, _ => 0
  | k + 1, m => usF n kd px py need k m + (if (need (n - 1 - k) = true ∨ 0 < usF n kd px py need k (n - 1 - k)) ∧ (kd (n - 1 - k) = 2 ∨ kd (n - 1 - k) = 3) then
      (if px (n - 1 - k) = m then 1 else 0) + (if kd (n - 1 - k) = 3 ∧ py (n - 1 - k) = m then 1 else 0) else 0)
/-- a node is live when it is needed or read -/
def lvF (n : Nat) (kd px py : Nat → Nat) (need : Nat → Bool) (m : Nat) : Bool := need m || decide (0 < usF n kd px py need n m)
def rtF (n : Nat) (kd px py : Nat → Nat) (need : Nat → Bool) (m : Nat) : Bool := decide (kd m = 2 ∨ kd m = 3) && (need m || decide (1 < usF n kd px py need n m))
theorem usF_le (n : Nat) (kd px py : Nat → Nat) (need : Nat → Bool) (k m : Nat) : usF n kd px py need k m ≤ 2 * k := by
  induction k with
  | zero => simp [usF]
  | succ k ih =>
    simp only [usF]
    have : ∀ (P Q R : Prop) [Decidable P] [Decidable Q] [Decidable R], (if P then (if Q then 1 else 0) + (if R then 1 else 0) else 0 : Nat) ≤ 2 := by
      intro P Q R _ _ _; split <;> (try split) <;> (try split) <;> omega
    have := this ((need (n - 1 - k) = true ∨ 0 < usF n kd px py need k (n - 1 - k)) ∧ (kd (n - 1 - k) = 2 ∨ kd (n - 1 - k) = 3)) (px (n - 1 - k) = m) (kd (n - 1 - k) = 3 ∧ py (n - 1 - k) = m)
    omega
/-- what is read at or below a node changes nothing above its parts -/
theorem usF_still {n : Nat} {kd px py : Nat → Nat} {need : Nat → Bool} (hw : wf kd px py n) {m : Nat} : ∀ {j k : Nat}, k + j ≤ n → n - 1 - m ≤ k → m < n → usF n kd px py need (k + j) m = usF n kd px py need k m := by
  intro j
  induction j with
  | zero => intro k _ _ _; rfl
  | succ j ih =>
    intro k h1 h2 h3
    rw [← Nat.add_assoc, usF, ih (by omega) h2 h3]
    have hlt : n - 1 - (k + j) < n := by omega
    have hle : n - 1 - (k + j) ≤ m := by omega
    have hw1 := hw _ hlt
    by_cases c : (need (n - 1 - (k + j)) = true ∨ 0 < usF n kd px py need (k + j) (n - 1 - (k + j))) ∧ (kd (n - 1 - (k + j)) = 2 ∨ kd (n - 1 - (k + j)) = 3)
    · rw [if_pos c]
      rcases c.2 with e | e
      · have := hw1.1 e
        rw [if_neg (by omega), if_neg (by omega)]; rfl
      · have := hw1.2 e
        rw [if_neg (by omega), if_neg (by omega)]; rfl
    · rw [if_neg c]; rfl
theorem usF_rdr {n : Nat} {kd px py : Nat → Nat} {need : Nat → Bool} (hw : wf kd px py n) {m : Nat} : ∀ {k : Nat}, k ≤ n → usF n kd px py need k m + rdr kd px py (lvF n kd px py need) (n - k) m = rdr kd px py (lvF n kd px py need) n m := by
  intro k
  induction k with
  | zero => intro _; rw [usF, Nat.sub_zero, Nat.zero_add]
  | succ k ih =>
    intro hk
    rw [← ih (by omega)]
    have e : n - k = (n - (k + 1)) + 1 := by omega
    rw [e, rdr, usF]
    have en : n - 1 - k = n - (k + 1) := by omega
    rw [en]
    have hst : usF n kd px py need n (n - (k + 1)) = usF n kd px py need k (n - (k + 1)) := by
      have := usF_still (need := need) hw (m := n - (k + 1)) (j := n - k) (k := k) (by omega) (by omega) (by omega)
      rwa [show k + (n - k) = n by omega] at this
    have hl : (lvF n kd px py need (n - (k + 1)) = true) ↔ (need (n - (k + 1)) = true ∨ 0 < usF n kd px py need k (n - (k + 1))) := by
      unfold lvF; rw [hst]; simp
    by_cases c : need (n - (k + 1)) = true ∨ 0 < usF n kd px py need k (n - (k + 1))
    · have hl2 := hl.mpr c
      rcases (show kd (n - (k + 1)) = 2 ∨ kd (n - (k + 1)) = 3 ∨ (¬ kd (n - (k + 1)) = 2 ∧ ¬ kd (n - (k + 1)) = 3) by omega) with e2 | e2 | ⟨e2, e3⟩
      · simp only [hl2, e2, c, true_and, and_true, true_or, or_false, if_true, Nat.reduceEqDiff, false_and, if_false]; omega
      · simp only [hl2, e2, c, true_and, and_true, or_true, if_true, Nat.reduceEqDiff, false_and, and_false, if_false]; omega
      · simp only [hl2, e2, e3, c, true_and, false_and, and_false, or_self, if_false]; omega
    · have hl2 : ¬ lvF n kd px py need (n - (k + 1)) = true := fun h => c (hl.mp h)
      simp only [hl2, c, Bool.false_eq_true, false_and, if_false]; omega
theorem usF_all {n : Nat} {kd px py : Nat → Nat} {need : Nat → Bool} (hw : wf kd px py n) (m : Nat) : rdr kd px py (lvF n kd px py need) n m = usF n kd px py need n m := by
  have := usF_rdr (need := need) hw (m := m) (k := n) (Nat.le_refl n)
  rw [Nat.sub_self, rdr] at this
  omega
/-- parts of live nodes are live -/
theorem lv_part {n : Nat} {kd px py : Nat → Nat} {need : Nat → Bool} (hw : wf kd px py n) : ∀ k, k < n → lvF n kd px py need k = true → (kd k = 2 → lvF n kd px py need (px k) = true) ∧ (kd k = 3 → lvF n kd px py need (px k) = true ∧ lvF n kd px py need (py k) = true) := by
  intro k hk hl
  have key : ∀ m, rdr kd px py (lvF n kd px py need) (k + 1) m ≤ usF n kd px py need n m := fun m => by
    rw [← usF_all hw]; exact rdr_mono kd px py _ (by omega)
  have pos : ∀ m, 0 < usF n kd px py need n m → lvF n kd px py need m = true := fun m h => by unfold lvF; simp [h]
  refine ⟨fun e => pos _ (Nat.lt_of_lt_of_le ?_ (key _)), fun e => ⟨pos _ (Nat.lt_of_lt_of_le ?_ (key _)), pos _ (Nat.lt_of_lt_of_le ?_ (key _))⟩⟩
  · rw [rdr, if_pos (show lvF n kd px py need k = true ∧ kd k = 2 ∧ px k = px k from ⟨hl, e, rfl⟩)]; omega
  · rw [rdr, if_pos (show lvF n kd px py need k = true ∧ kd k = 3 ∧ px k = px k from ⟨hl, e, rfl⟩)]; omega
  · rw [rdr, if_pos (show lvF n kd px py need k = true ∧ kd k = 3 ∧ py k = py k from ⟨hl, e, rfl⟩)]; omega
/-- the tree of a live node has no more nodes than its number says -/
theorem lv_sz {n : Nat} {kd px py : Nat → Nat} {need : Nat → Bool} (hw : wf kd px py n) {k : Nat} (hk : k < n) (hl : lvF n kd px py need k = true) : sz kd px py (rtF n kd px py need) k ≤ k + 1 := by
  refine (sz_le (lv := lvF n kd px py need) hw (fun m hm hr => ?_) (lv_part hw) k (by omega)).2 hk hl
  rw [usF_all hw]
  have h1 := hr.1
  have h2 := hr.2
  unfold rtF at h2
  rw [decide_eq_true h1, Bool.true_and, Bool.or_eq_false_iff] at h2
  have := of_decide_eq_false h2.2
  omega
