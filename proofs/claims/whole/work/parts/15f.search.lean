/-! ## the constraints of a period, tails, raising -/
def rt_H (E : Nat → Nat → Nat → Prop) (gt : Nat → Prop) (d : Nat → Nat) (n : Nat) : Prop :=
  rt_E E d n ∧ (∀ u v w, E u v w → gt u ∧ gt v) ∧ ∀ u, gt u → u < n

def rt_C (E : Nat → Nat → Nat → Prop) (gt : Nat → Prop) (d : Nat → Nat) (n : Nat) (P : Int) (u v : Nat) (k : Int) : Prop :=
  (u = v ∧ gt u ∧ k = 0 - (if P < ((d u : Nat) : Int) then 1 else 0)) ∨
  ∃ m w dl, rt_W E d n m u v w dl ∧ k = (w : Int) - (if P < ((dl + d v : Nat) : Int) then 1 else 0)

def rt_leg (E : Nat → Nat → Nat → Prop) (r : Nat → Int) : Prop := ∀ u v w, E u v w → r v ≤ r u + (w : Int)

def rt_T (E : Nat → Nat → Nat → Prop) (gt : Nat → Prop) (d : Nat → Nat) (n : Nat) (r t : Nat → Int) : Prop :=
  ∀ u, gt u → (t u = ((d u : Nat) : Int) ∨ ∃ m v w dl, rt_W E d n m u v w dl ∧ r v = r u + (w : Int) ∧ t u = ((dl + d v : Nat) : Int)) ∧
    ((d u : Nat) : Int) ≤ t u ∧ ∀ m v w dl, rt_W E d n m u v w dl → r v = r u + (w : Int) → ((dl + d v : Nat) : Int) ≤ t u

theorem rt_C_gt {E gt d n P} (hH : rt_H E gt d n) {u v k} (h : rt_C E gt d n P u v k) : gt u ∧ gt v ∧ -1 ≤ k := by
  rcases h with ⟨h1, h2, h3⟩ | ⟨m, w, dl, h1, h2⟩
  · subst h1; refine ⟨h2, h2, ?_⟩; split at h3 <;> omega
  · have := rt_W_end hH.2.1 h1
    refine ⟨this.1, this.2, ?_⟩; split at h2 <;> omega

theorem rt_C_mono {E gt d n P P' r0 s} (hP : P ≤ P') (h : rt_S gt (rt_C E gt d n P) r0 s) : rt_S gt (rt_C E gt d n P') r0 s := by
  refine ⟨h.1, fun u v k hk => ?_⟩
  rcases hk with ⟨h1, h2, h3⟩ | ⟨m, w, dl, h1, h2⟩
  · have := h.2 u v _ (.inl ⟨h1, h2, rfl⟩)
    split at this <;> split at h3 <;> omega
  · have := h.2 u v _ (.inr ⟨m, w, dl, h1, rfl⟩)
    split at this <;> split at h2 <;> omega

theorem rt_leg_of_S {E gt d n P r0 s} (h : rt_S gt (rt_C E gt d n P) r0 s) : rt_leg E s := by
  intro u v w he
  have := h.2 u v _ (.inr ⟨0, w, d u, ⟨he, rfl⟩, rfl⟩)
  split at this <;> omega

theorem rt_leg_W {E d n r} (h : rt_leg E r) : ∀ {m u v w dl}, rt_W E d n m u v w dl → r v ≤ r u + (w : Int) := by
  intro m
  induction m with
  | zero => intro u v w dl ⟨h1, _⟩; exact h u v w h1
  | succ m ih =>
    intro u v w dl ⟨y, w1, d1, w2, h1, h2, h3, h4, h5⟩
    have := ih h1; have := h _ _ _ h3; omega

theorem rt_T_edge {E gt d n r t} (hH : rt_H E gt d n) (hT : rt_T E gt d n r t) {u v w} (he : E u v w) (hr : r v = r u + (w : Int)) : ((d u : Nat) : Int) + t v ≤ t u := by
  have ⟨gu, gv⟩ := hH.2.1 u v w he
  have ⟨_, _, a3⟩ := hT u gu
  have ⟨b1, _, _⟩ := hT v gv
  rcases b1 with b1 | ⟨m, x, w1, dl, b1, b2, b3⟩
  · have := a3 0 v w (d u) ⟨he, rfl⟩ hr; omega
  · have h1 : rt_W E d n 0 u v w (d u) := ⟨he, rfl⟩
    have := a3 _ x _ _ (rt_W_cat h1 (hH.2.2 v gv) b1) (by omega)
    omega

theorem rt_raise_leg {E gt d n r t} {r' : Nat → Int} {P : Int} (hH : rt_H E gt d n) (hl : rt_leg E r) (hT : rt_T E gt d n r t)
    (hr : ∀ u, gt u → r' u = r u + (if P < t u then 1 else 0)) : rt_leg E r' := by
  intro u v w he
  have ⟨gu, gv⟩ := hH.2.1 u v w he
  have h1 := hl u v w he
  rw [hr u gu, hr v gv]
  by_cases e : r v = r u + (w : Int)
  · have := rt_T_edge hH hT he e
    split <;> split <;> omega
  · split <;> split <;> omega

theorem rt_raise_le {E gt d n r t s r0} {r' : Nat → Int} {P : Int} (hH : rt_H E gt d n) (hT : rt_T E gt d n r t)
    (hr : ∀ u, gt u → r' u = r u + (if P < t u then 1 else 0)) (hs : rt_S gt (rt_C E gt d n P) r0 s) (hle : ∀ u, gt u → r u ≤ s u) :
    ∀ u, gt u → r' u ≤ s u := by
  intro u gu
  rw [hr u gu]
  have h0 := hle u gu
  split
  · rename_i hp
    rcases (hT u gu).1 with b1 | ⟨m, x, w1, dl, b1, b2, b3⟩
    · have := hs.2 u u _ (.inl ⟨rfl, gu, rfl⟩)
      rw [if_pos (by omega)] at this
      omega
    · have := hs.2 u x _ (.inr ⟨m, w1, dl, b1, rfl⟩)
      rw [if_pos (by omega)] at this
      have := hle x (rt_W_end hH.2.1 b1).2
      omega
  · omega

theorem rt_raise_relax {E gt d n r t} {r' : Nat → Int} {P : Int} (hH : rt_H E gt d n) (hl : rt_leg E r) (hT : rt_T E gt d n r t)
    (hr : ∀ u, gt u → r' u = r u + (if P < t u then 1 else 0)) : ∀ u v k, rt_C E gt d n P u v k → r v ≤ r' u + k := by
  intro u v k hk
  have ⟨gu, gv, _⟩ := rt_C_gt hH hk
  rw [hr u gu]
  have ⟨_, a2, a3⟩ := hT u gu
  rcases hk with ⟨h1, h2, h3⟩ | ⟨m, w, dl, h1, h2⟩
  · subst h1
    split at h3
    · rw [if_pos (by omega)]; omega
    · split <;> omega
  · have h4 := rt_leg_W hl h1
    split at h2
    · by_cases e : r v = r u + (w : Int)
      · have := a3 m v w dl h1 e
        rw [if_pos (by omega)]; omega
      · split <;> omega
    · split <;> omega

theorem rt_S_of_T {E gt d n r t} {P : Int} (hH : rt_H E gt d n) (hl : rt_leg E r) (hT : rt_T E gt d n r t) (h0 : ∀ u, gt u → 0 ≤ r u)
    (hP : ∀ u, gt u → t u ≤ P) : rt_S gt (rt_C E gt d n P) (fun _ => 0) r := by
  refine ⟨h0, fun u v k hk => ?_⟩
  have := rt_raise_relax (P := P) (r' := r) hH hl hT (fun u gu => by rw [if_neg (by have := hP u gu; omega)]; omega) u v k hk
  exact this

theorem rt_T_of_S {E gt d n r t r0} {P : Int} (hT : rt_T E gt d n r t) (hs : rt_S gt (rt_C E gt d n P) r0 r) : ∀ u, gt u → t u ≤ P := by
  intro u gu
  rcases (hT u gu).1 with b1 | ⟨m, x, w1, dl, b1, b2, b3⟩
  · have := hs.2 u u _ (.inl ⟨rfl, gu, rfl⟩)
    split at this <;> omega
  · have := hs.2 u x _ (.inr ⟨m, w1, dl, b1, rfl⟩)
    split at this <;> omega

/-! ## sums over the gates -/
noncomputable def rt_sum (gt : Nat → Prop) (r : Nat → Int) : Nat → Int
  | 0 => 0
  | n + 1 => rt_sum gt r n + @ite Int (gt n) (Classical.propDecidable (gt n)) (r n) 0

theorem rt_sum_mono {gt : Nat → Prop} {r s : Nat → Int} {n : Nat} (h : ∀ u, gt u → r u ≤ s u) : rt_sum gt r n ≤ rt_sum gt s n := by
  induction n with
  | zero => simp [rt_sum]
  | succ n ih =>
    simp only [rt_sum]
    by_cases g : gt n
    · have := h n g; simp only [g, if_true]; omega
    · simp only [g, if_false]; omega

theorem rt_sum_lt {gt : Nat → Prop} {r s : Nat → Int} {n j : Nat} (h : ∀ u, gt u → r u ≤ s u) (hj : j < n) (gj : gt j) (hl : r j < s j) : rt_sum gt r n < rt_sum gt s n := by
  induction n with
  | zero => omega
  | succ n ih =>
    simp only [rt_sum]
    by_cases e : j = n
    · subst e
      have := rt_sum_mono (n := j) h
      simp only [gj, if_true]; omega
    · have := ih (by omega)
      by_cases g : gt n
      · have := h n g; simp only [g, if_true]; omega
      · simp only [g, if_false]; omega

theorem rt_sum_congr {gt : Nat → Prop} {r s : Nat → Int} {n : Nat} (h : ∀ u, gt u → r u = s u) : rt_sum gt r n = rt_sum gt s n := by
  have h1 := rt_sum_mono (n := n) (gt := gt) (r := r) (s := s) fun u g => by have := h u g; omega
  have h2 := rt_sum_mono (n := n) (gt := gt) (r := s) (s := r) fun u g => by have := h u g; omega
  omega

theorem rt_sum_le {gt : Nat → Prop} {r : Nat → Int} {n : Nat} {b : Int} (hb : 0 ≤ b) (h : ∀ u, gt u → r u ≤ b) : rt_sum gt r n ≤ b * n := by
  induction n with
  | zero => simp [rt_sum]
  | succ n ih =>
    simp only [rt_sum]
    have e : b * ((n + 1 : Nat) : Int) = b * n + b := by
      rw [Int.natCast_add, Int.mul_add]; simp
    rw [e]
    by_cases g : gt n
    · have := h n g; simp only [g, if_true]; omega
    · simp only [g, if_false]; omega

theorem rt_sum_zero {gt : Nat → Prop} {n : Nat} : rt_sum gt (fun _ => 0) n = 0 := by
  induction n with
  | zero => rfl
  | succ n ih => simp only [rt_sum, ih]; split <;> rfl

/-! ## the class's search -/
def rt_in (I : Nat → Nat → Prop) (r : Nat → Int) : Prop := ∀ v w, I v w → r v ≤ (w : Int)

/-- the picture at the head of the class's loop: trial r, moves mv, tails t, period P, um rounds unmet, rd rounds done -/
def rt_CI (E : Nat → Nat → Nat → Prop) (I : Nat → Nat → Prop) (gt : Nat → Prop) (d : Nat → Nat) (n : Nat) (r mv t : Nat → Int) (P : Int) (um rd : Nat) : Prop :=
  rt_leg E r ∧ rt_in I r ∧ rt_L gt (rt_C E gt d n P) (fun _ => 0) mv ∧ rt_in I mv ∧ rt_T E gt d n r t ∧
  ((∃ u, gt u) → ∃ u, gt u ∧ P ≤ t u) ∧ (∀ u, gt u → mv u ≤ r u ∧ r u ≤ mv u + um) ∧
  (∃ q : Nat → Nat → Int, (∀ u, gt u → q 0 u = mv u) ∧ (∀ u, gt u → q um u = r u) ∧
    (∀ m u, m < um → gt u → q m u ≤ q (m + 1) u) ∧ (∀ m u v k, m < um → rt_C E gt d n (P - 1) u v k → q m v ≤ q (m + 1) u + k) ∧
    (∀ m s, m ≤ um → rt_S gt (rt_C E gt d n (P - 1)) (fun _ => 0) s → ∀ u, gt u → q m u ≤ s u)) ∧
  (rd : Int) ≤ rt_sum gt mv n + um ∧ (rd : Int) ≤ rt_sum gt r n ∧ 0 ≤ P

theorem rt_CI_first {E I gt d n t P} (hH : rt_H E gt d n) (hT : rt_T E gt d n (fun _ => 0) t) (hP : ∀ u, gt u → t u ≤ P) (hP2 : (∃ u, gt u) → ∃ u, gt u ∧ P = t u) (h0 : 0 ≤ P) :
    rt_CI E I gt d n (fun _ => 0) (fun _ => 0) t P 0 0 := by
  have hl : rt_leg E (fun _ => 0) := fun u v w _ => by simp only; omega
  have hS := rt_S_of_T hH hl hT (fun _ _ => by simp) hP
  refine ⟨hl, fun v w _ => by simp only; omega, ⟨hS, fun s hs u g => hs.1 u g⟩, fun v w _ => by simp only; omega, hT, fun g => ?_, fun u g => by simp only; omega,
    ⟨fun _ _ => 0, fun _ _ => rfl, fun _ _ => rfl, fun m u h => by omega, fun m u v k h => by omega, fun m s h hs u g => hs.1 u g⟩, ?_, ?_, h0⟩
  · have ⟨u, gu, e⟩ := hP2 g; exact ⟨u, gu, by omega⟩
  · rw [rt_sum_zero]; simp
  · rw [rt_sum_zero]; simp

/-- a round that reaches a shorter period -/
theorem rt_CI_met {E I gt d n r mv t r' t' P P' um rd} (hH : rt_H E gt d n) (h : rt_CI E I gt d n r mv t P um rd) (hg : ∃ u, gt u)
    (hr : ∀ u, gt u → r' u = r u + (if P - 1 < t u then 1 else 0)) (hi : rt_in I r') (hT : rt_T E gt d n r' t') (hP : ∀ u, gt u → t' u ≤ P') (hP2 : ∃ u, gt u ∧ P' = t' u)
    (hl : P' < P) (h0 : 0 ≤ P') : rt_CI E I gt d n r' r' t' P' 0 (rd + 1) := by
  have ⟨c1, c2, c3, c4, c5, c6, c7, ⟨q, q1, q2, q3, q4, q5⟩, c9, c10, c11⟩ := h
  have l1 := rt_raise_leg hH c1 c5 hr
  have p0 : ∀ u, gt u → 0 ≤ r' u := fun u g => by
    have := c3.1.1 u g; have := c7 u g; have := hr u g; simp only at *; split at this <;> omega
  have S1 := rt_S_of_T hH l1 hT p0 hP
  have least : ∀ s, rt_S gt (rt_C E gt d n P') (fun _ => 0) s → ∀ u, gt u → r' u ≤ s u := fun s hs =>
    have hs' : rt_S gt (rt_C E gt d n (P - 1)) (fun _ => 0) s := rt_C_mono (by omega) hs
    rt_raise_le hH c5 hr hs' fun u g => by have := q5 um s (Nat.le_refl um) hs' u g; rwa [q2 u g] at this
  have ⟨u0, g0, e0⟩ := c6 hg
  have hsum : rt_sum gt r n < rt_sum gt r' n := rt_sum_lt (j := u0) (fun u g => by have := hr u g; split at this <;> omega) (hH.2.2 u0 g0) g0
    (by have := hr u0 g0; rw [if_pos (by omega)] at this; omega)
  have ⟨u1, g1, e1⟩ := hP2
  refine ⟨l1, hi, ⟨S1, least⟩, hi, hT, fun _ => ⟨u1, g1, by omega⟩, fun u g => by omega,
    ⟨fun _ => r', fun _ _ => rfl, fun _ _ => rfl, fun m u h => by omega, fun m u v k h => by omega, fun m s _ hs => least s (rt_C_mono (by omega) hs)⟩, ?_, ?_, h0⟩
  · omega
  · omega

/-- a round that reaches none -/
theorem rt_CI_unmet {E I gt d n r mv t r' t' P um rd} (hH : rt_H E gt d n) (h : rt_CI E I gt d n r mv t P um rd) (hg : ∃ u, gt u)
    (hr : ∀ u, gt u → r' u = r u + (if P - 1 < t u then 1 else 0)) (hi : rt_in I r') (hT : rt_T E gt d n r' t') (hP2 : ∃ u, gt u ∧ P ≤ t' u) :
    rt_CI E I gt d n r' mv t' P (um + 1) (rd + 1) := by
  have ⟨c1, c2, c3, c4, c5, c6, c7, ⟨q, q1, q2, q3, q4, q5⟩, c9, c10, c11⟩ := h
  have l1 := rt_raise_leg hH c1 c5 hr
  have ⟨u0, g0, e0⟩ := c6 hg
  have hsum : rt_sum gt r n < rt_sum gt r' n := rt_sum_lt (j := u0) (fun u g => by have := hr u g; split at this <;> omega) (hH.2.2 u0 g0) g0
    (by have := hr u0 g0; rw [if_pos (by omega)] at this; omega)
  have hx := rt_raise_relax hH c1 c5 hr
  have ⟨q', qa, qb⟩ : ∃ q' : Nat → Nat → Int, (∀ m, m ≤ um → q' m = q m) ∧ q' (um + 1) = r' := ⟨fun m => if m ≤ um then q m else r', fun m hm => if_pos hm, if_neg (by omega)⟩
  refine ⟨l1, hi, c3, c4, hT, fun _ => hP2, fun u g => by have := c7 u g; have := hr u g; split at this <;> omega,
    ⟨q', fun u g => by rw [qa 0 (by omega)]; exact q1 u g, fun u g => by rw [qb], fun m u hm g => ?_, fun m u v k hm c => ?_, fun m s hm hs u g => ?_⟩, by omega, by omega, c11⟩
  · rw [qa m (by omega)]
    by_cases e : m = um
    · rw [e, qb, q2 u g]; have := hr u g; split at this <;> omega
    · rw [qa (m + 1) (by omega)]; exact q3 m u (by omega) g
  · have ⟨gu, gv, _⟩ := rt_C_gt hH c
    rw [qa m (by omega)]
    by_cases e : m = um
    · rw [e, qb, q2 v gv]; exact hx u v k c
    · rw [qa (m + 1) (by omega)]; exact q4 m u v k (by omega) c
  · by_cases e : m ≤ um
    · rw [qa m e]; exact q5 m s e hs u g
    · rw [show m = um + 1 by omega, qb]
      exact rt_raise_le hH c5 hr hs (fun u g => by have := q5 um s (Nat.le_refl um) hs u g; rwa [q2 u g] at this) u g

/-- no shorter period, for one of the three reasons -/
theorem rt_CI_floor {E : Nat → Nat → Nat → Prop} {I : Nat → Nat → Prop} {gt : Nat → Prop} {d : Nat → Nat} {n : Nat} {P : Int} (hf : ∃ u, gt u ∧ P ≤ ((d u : Nat) : Int)) :
    ¬ ∃ s, rt_S gt (rt_C E gt d n (P - 1)) (fun _ => 0) s ∧ rt_in I s := by
  intro ⟨s, hs, _⟩
  have ⟨u, g, e⟩ := hf
  have := hs.2 u u _ (.inl ⟨rfl, g, rfl⟩)
  rw [if_pos (by omega)] at this
  omega

theorem rt_CI_taken {E I gt d n r mv t r' P um rd} (hH : rt_H E gt d n) (hI : ∀ v w, I v w → gt v) (h : rt_CI E I gt d n r mv t P um rd)
    (hr : ∀ u, gt u → r' u = r u + (if P - 1 < t u then 1 else 0)) (hi : ¬ rt_in I r') :
    ¬ ∃ s, rt_S gt (rt_C E gt d n (P - 1)) (fun _ => 0) s ∧ rt_in I s := by
  intro ⟨s, hs, hsi⟩
  have ⟨c1, c2, c3, c4, c5, c6, c7, ⟨q, q1, q2, q3, q4, q5⟩, c9, c10, c11⟩ := h
  refine hi fun v w hvw => ?_
  have h1 := rt_raise_le hH c5 hr hs (fun u g => by have := q5 um s (Nat.le_refl um) hs u g; rwa [q2 u g] at this) v (hI v w hvw)
  have := hsi v w hvw
  omega

theorem rt_CI_over {E I gt d n r mv t P um rd G} (hH : rt_H E gt d n) (h : rt_CI E I gt d n r mv t P um rd) (hG : rt_cnt gt n = G) (hg : ∃ u, gt u) (hu : G ≤ um) :
    ¬ ∃ s, rt_S gt (rt_C E gt d n (P - 1)) (fun _ => 0) s ∧ rt_in I s := by
  intro ⟨s, hs, hsi⟩
  have ⟨c1, c2, c3, c4, c5, c6, c7, ⟨q, q1, q2, q3, q4, q5⟩, c9, c10, c11⟩ := h
  have hC : ∀ u v k, rt_C E gt d n (P - 1) u v k → gt u ∧ gt v := fun u v k c => ⟨(rt_C_gt hH c).1, (rt_C_gt hH c).2.1⟩
  have above : ∀ s, rt_S gt (rt_C E gt d n (P - 1)) (fun _ => 0) s → rt_S gt (rt_C E gt d n (P - 1)) (q 0) s := fun s hs => ⟨fun u g => q5 0 s (by omega) hs u g, hs.2⟩
  have back : ∀ s, rt_S gt (rt_C E gt d n (P - 1)) (q 0) s → rt_S gt (rt_C E gt d n (P - 1)) (fun _ => 0) s := fun s hs => ⟨fun u g => by
    have := hs.1 u g; have := c3.1.1 u g; have := q1 u g; simp only at *; omega, hs.2⟩
  have ⟨l, hl⟩ := rt_L_ex hC ⟨s, above s hs⟩
  have fin := rt_rounds (M := um) hC hl hH.2.2 hG (by omega) (fun m u hm g => q5 m l hm (back l hl.1) u g) (fun m u hm g => q3 m u hm g) (fun m u v k hm c => q4 m u v k hm c)
  -- the last trial is a solution: no tail above P - 1
  have hrs : rt_S gt (rt_C E gt d n (P - 1)) (fun _ => 0) r := ⟨fun u g => by have := c7 u g; have := c3.1.1 u g; simp only at *; omega, fun u v k c => by
    have ⟨gu, gv⟩ := hC u v k c
    have := hl.1.2 u v k c
    rw [← fin u gu, ← fin v gv, q2 u gu, q2 v gv] at this
    exact this⟩
  have ⟨u, g, e⟩ := c6 hg
  have := rt_T_of_S c5 hrs u g
  omega

/-- the rounds never run out -/
theorem rt_CI_rounds {E I gt d n r mv t P um rd G} (hH : rt_H E gt d n) (h : rt_CI E I gt d n r mv t P um rd) (hG : rt_cnt gt n = G) (hu : um < G) : rd < 2304 ∧ rt_sum gt mv n ≤ 2256 ∧ ∀ u, gt u → 0 ≤ mv u ∧ mv u ≤ 47 := by
  have ⟨c1, c2, c3, c4, c5, c6, c7, ⟨q, q1, q2, q3, q4, q5⟩, c9, c10, c11⟩ := h
  have hn := hH.1.1
  have hGn := rt_cnt_le gt n
  have ng := rt_nogap (fun u v k c => rt_C_gt hH c) c3 hH.2.2 hG
  have h47 : ∀ u, gt u → mv u ≤ 47 := fun u g => by have := ng u g; omega
  have s1 := rt_sum_le (gt := gt) (r := mv) (n := n) (b := 47) (by omega) h47
  refine ⟨by omega, by omega, fun u g => ⟨c3.1.1 u g, h47 u g⟩⟩
