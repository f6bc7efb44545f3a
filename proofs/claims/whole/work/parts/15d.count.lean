/-! ## counting -/
noncomputable def rt_cnt (p : Nat → Prop) : Nat → Nat
  | 0 => 0
  | n + 1 => rt_cnt p n + @ite Nat (p n) (Classical.propDecidable (p n)) 1 0

theorem rt_cnt_le (p : Nat → Prop) (n : Nat) : rt_cnt p n ≤ n := by
  induction n with
  | zero => simp [rt_cnt]
  | succ n ih => simp only [rt_cnt]; split <;> omega

theorem rt_cnt_mono {p q : Nat → Prop} {n : Nat} (h : ∀ i, i < n → p i → q i) : rt_cnt p n ≤ rt_cnt q n := by
  induction n with
  | zero => simp [rt_cnt]
  | succ n ih =>
    have h1 := ih fun i hi => h i (by omega)
    have h2 := h n (by omega)
    simp only [rt_cnt]
    by_cases hp : p n
    · have := h2 hp; simp only [hp, this, if_true]; omega
    · simp only [hp, if_false]; split <;> omega

theorem rt_cnt_lt {p q : Nat → Prop} {n j : Nat} (h : ∀ i, i < n → p i → q i) (hj : j < n) (hq : q j) (hp : ¬ p j) : rt_cnt p n < rt_cnt q n := by
  induction n with
  | zero => omega
  | succ n ih =>
    simp only [rt_cnt]
    by_cases e : j = n
    · subst e
      have h1 := rt_cnt_mono (n := j) fun i hi => h i (by omega)
      simp only [hp, hq, if_true, if_false]; omega
    · have h1 := ih (fun i hi => h i (by omega)) (by omega)
      have h2 := h n (by omega)
      by_cases hpn : p n
      · have := h2 hpn; simp only [hpn, this, if_true]; omega
      · simp only [hpn, if_false]; split <;> omega

theorem rt_cnt_full {p : Nat → Prop} {n : Nat} (h : n ≤ rt_cnt p n) : ∀ v, v < n → p v := by
  intro v hv
  by_cases hp : p v
  · exact hp
  · have h1 := rt_cnt_lt (p := p) (q := fun _ => True) (n := n) (fun _ _ _ => trivial) hv trivial hp
    have h2 := rt_cnt_le (fun _ => True) n
    omega

theorem rt_cnt_add (p : Nat → Prop) (n : Nat) : rt_cnt p n + rt_cnt (fun i => ¬ p i) n = n := by
  induction n with
  | zero => simp [rt_cnt]
  | succ n ih =>
    simp only [rt_cnt]
    by_cases hp : p n
    · simp only [hp, not_true_eq_false, if_true, if_false]; omega
    · simp only [hp, not_false_eq_true, if_true, if_false]; omega

/-- growing sets that gain an element as long as they are not full are full in time -/
theorem rt_fill {A : Nat → Nat → Prop} {n c M : Nat} (h0 : c ≤ rt_cnt (A 0) n) (hm : ∀ m v, m < M → v < n → A m v → A (m + 1) v)
    (hp : ∀ m, m < M → (∀ v, v < n → A m v) ∨ ∃ v, v < n ∧ A (m + 1) v ∧ ¬ A m v) (hc : n ≤ M + c) : ∀ v, v < n → A M v := by
  have key : ∀ m, m ≤ M → (∀ v, v < n → A m v) ∨ m + c ≤ rt_cnt (A m) n := by
    intro m
    induction m with
    | zero => intro _; right; omega
    | succ m ih =>
      intro hM
      rcases ih (by omega) with ih | ih
      · left; intro v hv; exact hm m v (by omega) hv (ih v hv)
      · rcases hp m (by omega) with h | ⟨v, hv, h1, h2⟩
        · left; intro v hv; exact hm m v (by omega) hv (h v hv)
        · right
          have := rt_cnt_lt (p := A m) (q := A (m + 1)) (n := n) (fun i hi => hm m i (by omega) hi) hv h1 h2
          omega
  rcases key M (Nat.le_refl M) with h | h
  · exact h
  · exact rt_cnt_full (by omega)

/-- growing sets that stand still once they stood still are all in the n-th -/
theorem rt_still {A : Nat → Nat → Prop} {n : Nat} (hm : ∀ m v, v < n → A m v → A (m + 1) v)
    (hs : ∀ m, (∀ v, v < n → A (m + 1) v → A m v) → ∀ v, v < n → A (m + 2) v → A (m + 1) v) : ∀ m v, v < n → A m v → A n v := by
  have st : ∀ m, (∀ v, v < n → A (m + 1) v → A m v) → ∀ j v, v < n → A (m + j) v → A m v := by
    intro m h j
    have hh : ∀ j v, v < n → A (m + j + 1) v → A (m + j) v := by
      intro j
      induction j with
      | zero => exact h
      | succ j ih => exact hs (m + j) ih
    induction j with
    | zero => intro v _ h; exact h
    | succ j ih => intro v hv hj; exact ih v hv (hh j v hv hj)
  have up : ∀ m j v, v < n → A m v → A (m + j) v := by
    intro m j
    induction j with
    | zero => intro v _ h; exact h
    | succ j ih => intro v hv h; exact hm _ v hv (ih v hv h)
  have key : ∀ m, (∃ k, k ≤ m ∧ ∀ v, v < n → A (k + 1) v → A k v) ∨ m ≤ rt_cnt (A m) n := by
    intro m
    induction m with
    | zero => right; omega
    | succ m ih =>
      rcases ih with ⟨k, hk, h⟩ | ih
      · exact .inl ⟨k, by omega, h⟩
      · by_cases e : ∀ v, v < n → A (m + 1) v → A m v
        · exact .inl ⟨m, by omega, e⟩
        · right
          have ⟨v, hv⟩ := Classical.not_forall.mp e
          have ⟨hv1, hv⟩ := Classical.not_imp.mp hv
          have ⟨h1, h2⟩ := Classical.not_imp.mp hv
          have := rt_cnt_lt (p := A m) (q := A (m + 1)) (n := n) (fun i hi => hm m i hi) hv1 h1 h2
          omega
  intro m v hv h
  rcases key n with ⟨k, hk, hh⟩ | hh
  · have h1 : A k v := by
      by_cases e : m ≤ k
      · have := up m (k - m) v hv h; rwa [show m + (k - m) = k by omega] at this
      · exact st k hh (m - k) v hv (by rwa [show k + (m - k) = m by omega])
    have := up k (n - k) v hv h1; rwa [show k + (n - k) = n by omega] at this
  · exact rt_cnt_full hh v hv

/-! ## difference constraints -/
/-- s stays above r0 and keeps all constraints -/
def rt_S (gt : Nat → Prop) (C : Nat → Nat → Int → Prop) (r0 s : Nat → Int) : Prop :=
  (∀ u, gt u → r0 u ≤ s u) ∧ ∀ u v k, C u v k → s v ≤ s u + k

def rt_L (gt : Nat → Prop) (C : Nat → Nat → Int → Prop) (r0 l : Nat → Int) : Prop :=
  rt_S gt C r0 l ∧ ∀ s, rt_S gt C r0 s → ∀ u, gt u → l u ≤ s u

theorem rt_min {p : Int → Prop} (b : Int) (hb : ∀ i, p i → b ≤ i) (h : ∃ i, p i) : ∃ i, p i ∧ ∀ j, p j → i ≤ j := by
  have ⟨i, hi⟩ := h
  have key : ∀ m : Nat, ∀ i, p i → i ≤ b + m → ∃ i, p i ∧ ∀ j, p j → i ≤ j := by
    intro m
    induction m with
    | zero => intro i hi h; exact ⟨i, hi, fun j hj => by have := hb j hj; omega⟩
    | succ m ih =>
      intro i hi h
      by_cases e : ∃ j, p j ∧ j < i
      · have ⟨j, hj, hl⟩ := e; exact ih j hj (by omega)
      · exact ⟨i, hi, fun j hj => by
          by_cases l : j < i
          · exact absurd ⟨j, hj, l⟩ e
          · omega⟩
  have := hb i hi
  exact key (i - b).toNat i hi (by omega)

theorem rt_L_ex {gt : Nat → Prop} {C : Nat → Nat → Int → Prop} {r0 : Nat → Int} (hC : ∀ u v k, C u v k → gt u ∧ gt v) (h : ∃ s, rt_S gt C r0 s) :
    ∃ l, rt_L gt C r0 l := by
  have ⟨s0, hs0⟩ := h
  have h1 : ∀ u, ∃ m, gt u → (∃ s, rt_S gt C r0 s ∧ s u = m) ∧ ∀ s, rt_S gt C r0 s → m ≤ s u := by
    intro u
    by_cases g : gt u
    · have ⟨m, ⟨s, hs, e⟩, hm⟩ := rt_min (p := fun i => ∃ s, rt_S gt C r0 s ∧ s u = i) (r0 u)
        (fun i ⟨s, hs, e⟩ => by have := hs.1 u g; omega) ⟨_, s0, hs0, rfl⟩
      exact ⟨m, fun _ => ⟨⟨s, hs, e⟩, fun s hs => hm _ ⟨s, hs, rfl⟩⟩⟩
    · exact ⟨0, fun h => absurd h g⟩
  have ⟨l, hl⟩ := Classical.axiomOfChoice h1
  refine ⟨l, ⟨fun u g => ?_, fun u v k c => ?_⟩, fun s hs u g => (hl u g).2 s hs⟩
  · have ⟨⟨s, hs, e⟩, _⟩ := hl u g
    have := hs.1 u g; omega
  · have ⟨gu, gv⟩ := hC u v k c
    have ⟨⟨s, hs, e⟩, _⟩ := hl u gu
    have h2 := (hl v gv).2 s hs
    have h3 := hs.2 u v k c
    omega

/-- the least solution above 0 has no gaps in its values -/
theorem rt_nogap {gt : Nat → Prop} {C : Nat → Nat → Int → Prop} {l : Nat → Int} {n G : Nat} (hC : ∀ u v k, C u v k → gt u ∧ gt v ∧ -1 ≤ k)
    (hl : rt_L gt C (fun _ => 0) l) (hn : ∀ u, gt u → u < n) (hG : rt_cnt gt n = G) : ∀ u, gt u → l u < G := by
  have hlow : ∀ m : Int, 0 ≤ m → (∃ v, gt v ∧ m ≤ l v) → ∃ v, gt v ∧ l v = m := by
    intro m hm ⟨v0, g0, h0⟩
    refine Classical.byContradiction fun hno => ?_
    have hne : ∀ v, gt v → l v ≠ m := fun v g e => hno ⟨v, g, e⟩
    have h := hl.2 (fun u => if m < l u then l u - 1 else l u) ⟨fun u g => by
        have := hl.1.1 u g; simp only at this ⊢; split <;> omega, fun u v k c => by
        have h1 := hl.1.2 u v k c
        have ⟨gu, gv, hk⟩ := hC u v k c
        have h2 := hne u gu
        have h3 := hne v gv
        simp only; split <;> split <;> omega⟩ v0 g0
    have := hne v0 g0
    rw [if_pos (by omega)] at h
    omega
  intro u g
  have hlu := hl.1.1 u g
  simp only at hlu
  have ⟨v0, g0, e0⟩ := hlow 0 (by omega) ⟨u, g, hlu⟩
  have hc0 : n - G + 1 ≤ rt_cnt (fun v => gt v → l v ≤ ((0 : Nat) : Int)) n := by
    have h1 := rt_cnt_add gt n
    have h2 := rt_cnt_lt (p := fun v => ¬ gt v) (q := fun v => gt v → l v ≤ ((0 : Nat) : Int)) (n := n) (j := v0) (fun i _ h g => absurd g h) (hn v0 g0) (fun _ => by omega) (fun h => h g0)
    omega
  have hgn := rt_cnt_le gt n
  have hg1 : 1 ≤ G := by
    have := rt_cnt_lt (p := fun _ => False) (q := gt) (n := n) (fun _ _ h => h.elim) (hn u g) g (fun h => h)
    omega
  have := rt_fill (A := fun m v => gt v → l v ≤ (m : Int)) (n := n) (c := n - G + 1) (M := G - 1) hc0 (fun m v _ _ h g => by have := h g; omega) (fun m _ => by
    by_cases e : ∀ v, v < n → gt v → l v ≤ (m : Int)
    · exact .inl e
    · right
      have ⟨v, hv⟩ := Classical.not_forall.mp e
      have ⟨hv1, hv⟩ := Classical.not_imp.mp hv
      have ⟨h1, h2⟩ := Classical.not_imp.mp hv
      have ⟨x, gx, ex⟩ := hlow (m + 1) (by omega) ⟨v, h1, by omega⟩
      exact ⟨x, hn x gx, fun _ => by omega, fun h => by have := h gx; omega⟩) (by omega) u (hn u g) g
  omega

/-- rounds of full relaxation end at the least solution -/
theorem rt_rounds {gt : Nat → Prop} {C : Nat → Nat → Int → Prop} {l : Nat → Int} {r : Nat → Nat → Int} {n G M : Nat} (hC : ∀ u v k, C u v k → gt u ∧ gt v)
    (hl : rt_L gt C (r 0) l) (hn : ∀ u, gt u → u < n) (hG : rt_cnt gt n = G)
    (hM : G ≤ M + 1) (hle : ∀ m u, m ≤ M → gt u → r m u ≤ l u) (hup : ∀ m u, m < M → gt u → r m u ≤ r (m + 1) u) (hx : ∀ m u v k, m < M → C u v k → r m v ≤ r (m + 1) u + k) :
    ∀ u, gt u → r M u = l u := by
  have hup' : ∀ m u, m ≤ M → gt u → r 0 u ≤ r m u := by
    intro m u hm g
    induction m with
    | zero => omega
    | succ m ih => have := hup m u (by omega) g; have := ih (by omega); omega
  have hlow : ∀ m, m ≤ M → (∃ v, gt v ∧ r m v < l v) → ∃ u v k, C u v k ∧ r m v = l v ∧ r m u < l u ∧ l v = l u + k := by
    intro m hmM ⟨v0, g0, h0⟩
    refine Classical.byContradiction fun hno => ?_
    have h := hl.2 (fun u => if r m u < l u then l u - 1 else l u) ⟨fun u g => by
        have := hl.1.1 u g; have := hup' m u hmM g; simp only; split <;> omega, fun u v k c => by
        have h1 := hl.1.2 u v k c
        have ⟨gu, gv⟩ := hC u v k c
        have h2 := hle m u hmM gu
        have h3 := hle m v hmM gv
        simp only
        split
        · split <;> omega
        · split
          · refine Classical.byContradiction fun hlt => hno ⟨u, v, k, c, by omega, by omega, by omega⟩
          · omega⟩ v0 g0
    rw [if_pos h0] at h
    omega
  intro u g
  refine Classical.byContradiction fun hne => ?_
  have hgt1 : ∀ m u, m < M → gt u → r m u = l u → r (m + 1) u = l u := fun m u hm g e => by
    have := hle (m + 1) u (by omega) g; have := hup m u hm g; omega
  have hprog : ∀ m, m < M → (∀ v, v < n → gt v → r m v = l v) ∨ ∃ v, v < n ∧ (gt v → r (m + 1) v = l v) ∧ ¬ (gt v → r m v = l v) := by
    intro m hm
    by_cases e : ∀ v, v < n → gt v → r m v = l v
    · exact .inl e
    · right
      have ⟨v, hv⟩ := Classical.not_forall.mp e
      have ⟨hv1, hv⟩ := Classical.not_imp.mp hv
      have ⟨h1, h2⟩ := Classical.not_imp.mp hv
      have ⟨x, y, k, c, e1, e2, e3⟩ := hlow m (by omega) ⟨v, h1, by have := hle m v (by omega) h1; omega⟩
      have ⟨gx, gy⟩ := hC x y k c
      exact ⟨x, hn x gx, fun _ => by have := hx m x y k hm c; have := hle (m + 1) x (by omega) gx; omega, fun h => by have := h gx; omega⟩
  have hone : ∃ v, gt v ∧ r 0 v = l v := by
    by_cases e : r 0 u = l u
    · exact ⟨u, g, e⟩
    · have ⟨x, y, k, c, e1, _⟩ := hlow 0 (by omega) ⟨u, g, by have := hle 0 u (by omega) g; omega⟩
      exact ⟨y, (hC x y k c).2, e1⟩
  have ⟨v0, g0, e0⟩ := hone
  have hgn := rt_cnt_le gt n
  have hc0 : n - G + 1 ≤ rt_cnt (fun v => gt v → r 0 v = l v) n := by
    have h1 := rt_cnt_add gt n
    have h2 := rt_cnt_lt (p := fun v => ¬ gt v) (q := fun v => gt v → r 0 v = l v) (n := n) (j := v0) (fun i _ h g => absurd g h) (hn v0 g0) (fun _ => e0) (fun h => h g0)
    omega
  have hg1 : 1 ≤ G := by
    have := rt_cnt_lt (p := fun _ => False) (q := gt) (n := n) (fun _ _ h => h.elim) (hn u g) g (fun h => h)
    omega
  exact hne (rt_fill (A := fun m v => gt v → r m v = l v) (n := n) (c := n - G + 1) (M := M) hc0 (fun m v hm _ h g => hgt1 m v hm g (h g)) hprog (by omega) u (hn u g) g)
