/-! ## tails by rounds -/
theorem rt_max {p : Int → Prop} (b : Int) (hb : ∀ i, p i → i ≤ b) (h : ∃ i, p i) : ∃ i, p i ∧ ∀ j, p j → j ≤ i := by
  have ⟨i, hi⟩ := h
  have ⟨j, hj, hl⟩ := rt_min (p := fun i => p (-i)) (-b) (fun i h => by have := hb _ h; omega) ⟨-i, by rwa [Int.neg_neg]⟩
  exact ⟨-j, hj, fun k hk => by have := hl (-k) (by rwa [Int.neg_neg]); omega⟩

/-- zero counts rise in this key -/
theorem rt_key {E gt d n} {r : Nat → Int} (hH : rt_H E gt d n) {u v w} (he : E u v w) (hr : r v = r u + (w : Int)) : 48 * r u + (u : Int) < 48 * r v + (v : Int) := by
  have ⟨⟨hn, hz, hd, hb, h6⟩, _, _⟩ := hH
  have := hb u v w he
  by_cases e : w = 0
  · subst e; have := hz u v he; omega
  · omega

theorem rt_T_ex {E gt d n} {r : Nat → Int} {B : Int} (hH : rt_H E gt d n) (hB : ∀ u, gt u → 0 ≤ r u ∧ r u ≤ B) : ∃ t, rt_T E gt d n r t := by
  have ⟨⟨hn, hz, hd, hb, h6⟩, hg, hgn⟩ := hH
  have h1 : ∀ u, ∃ x : Int, gt u → (x = ((d u : Nat) : Int) ∨ ∃ m v w dl, rt_W E d n m u v w dl ∧ r v = r u + (w : Int) ∧ x = ((dl + d v : Nat) : Int)) ∧
      ∀ y : Int, (y = ((d u : Nat) : Int) ∨ ∃ m v w dl, rt_W E d n m u v w dl ∧ r v = r u + (w : Int) ∧ y = ((dl + d v : Nat) : Int)) → y ≤ x := by
    intro u
    by_cases g : gt u
    · have ⟨x, hx, hm⟩ := rt_max (p := fun y => y = ((d u : Nat) : Int) ∨ ∃ m v w dl, rt_W E d n m u v w dl ∧ r v = r u + (w : Int) ∧ y = ((dl + d v : Nat) : Int)) (48000 * B + 49000)
        (fun y hy => by
          have b0 := hB u g
          rcases hy with h | ⟨m, v, w, dl, h1, h2, h3⟩
          · have := hd u; omega
          · have h4 := rt_W_dl hz hd (fun u v w h => by have := hb u v w h; omega) h1
            have ⟨_, gv⟩ := rt_W_end hg h1
            have := hB v gv
            have := hgn v gv
            have := hd v
            omega) ⟨_, .inl rfl⟩
      exact ⟨x, fun _ => ⟨hx, hm⟩⟩
    · exact ⟨0, fun h => absurd h g⟩
  have ⟨t, ht⟩ := Classical.axiomOfChoice h1
  refine ⟨t, fun u g => ⟨(ht u g).1, (ht u g).2 _ (.inl rfl), fun m v w dl h1 h2 => (ht u g).2 _ (.inr ⟨m, v, w, dl, h1, h2, rfl⟩)⟩⟩

/-- a longest tail goes by a first edge -/
theorem rt_T_first {E gt d n r t} (hH : rt_H E gt d n) (hl : rt_leg E r) (hT : rt_T E gt d n r t) {u} (g : gt u) (hne : t u ≠ ((d u : Nat) : Int)) :
    ∃ v w, E u v w ∧ r v = r u + (w : Int) ∧ t u ≤ ((d u : Nat) : Int) + t v := by
  have first : ∀ m v w dl, rt_W E d n m u v w dl → r v = r u + (w : Int) → ∃ y w1, E u y w1 ∧ r y = r u + (w1 : Int) ∧ ((dl + d v : Nat) : Int) ≤ ((d u : Nat) : Int) + t y := by
    intro m
    induction m with
    | zero =>
      intro v w dl ⟨h1, h2⟩ h3
      have := (hT v (hH.2.1 u v w h1).2).2.1
      exact ⟨v, w, h1, h3, by omega⟩
    | succ m ih =>
      intro v w dl hw hr
      have ⟨y, w1, d1, w2, h1, h2, h3, h4, h5⟩ := hw
      have l1 := rt_leg_W hl h1
      have l2 := hl _ _ _ h3
      -- split at the first edge
      have spl : ∀ m y w1 d1, rt_W E d n m u y w1 d1 → r y = r u + (w1 : Int) → ∃ z wz, E u z wz ∧ r z = r u + (wz : Int) ∧
          ((z = y ∧ wz = w1 ∧ d1 = d u) ∨ ∃ m' w' d', rt_W E d n m' z y w' d' ∧ w1 = wz + w' ∧ d1 = d u + d') := by
        intro m
        induction m with
        | zero => intro y w1 d1 ⟨a, b⟩ c; exact ⟨y, w1, a, c, .inl ⟨rfl, rfl, b⟩⟩
        | succ m ih =>
          intro y w1 d1 ⟨x, a1, a2, a3, b1, b2, b3, b4, b5⟩ c
          have l1 := rt_leg_W hl b1
          have l2 := hl _ _ _ b3
          have ⟨z, wz, z1, z2, z3⟩ := ih x a1 a2 b1 (by omega)
          refine ⟨z, wz, z1, z2, .inr ?_⟩
          rcases z3 with ⟨e1, e2, e3⟩ | ⟨m', w', d', e1, e2, e3⟩
          · subst e1; exact ⟨0, a3, d z, ⟨b3, rfl⟩, by omega, by omega⟩
          · exact ⟨m' + 1, w' + a3, d' + d x, ⟨x, w', d', a3, e1, b2, b3, rfl, rfl⟩, by omega, by omega⟩
      have ⟨z, wz, z1, z2, z3⟩ := spl (m + 1) v w dl hw hr
      refine ⟨z, wz, z1, z2, ?_⟩
      have gz := (hH.2.1 u z wz z1).2
      rcases z3 with ⟨e1, e2, e3⟩ | ⟨m', w', d', e1, e2, e3⟩
      · subst e1; have := (hT z gz).2.1; omega
      · have := (hT z gz).2.2 m' v w' d' e1 (by omega); omega
  rcases (hT u g).1 with b1 | ⟨m, x, w1, dl, b1, b2, b3⟩
  · exact absurd b1 hne
  · have ⟨y, wy, h1, h2, h3⟩ := first m x w1 dl b1 b2
    exact ⟨y, wy, h1, h2, by omega⟩

/-- tails that no edge can raise are the longest -/
theorem rt_T_closed {E gt d n r T} {t : Nat → Int} {B : Int} (hH : rt_H E gt d n) (hl : rt_leg E r) (hB : ∀ u, gt u → 0 ≤ r u ∧ r u ≤ B) (hT : rt_T E gt d n r T)
    (h1 : ∀ u, gt u → ((d u : Nat) : Int) ≤ t u ∧ t u ≤ T u) (hc : ∀ u v w, E u v w → r v = r u + (w : Int) → ((d u : Nat) : Int) + t v ≤ t u) :
    ∀ u, gt u → t u = T u := by
  have this_1 : ∀ k : Nat, ∀ u, gt u → 48 * B + 48 - (48 * r u + (u : Int)) ≤ k → t u = T u := by
    intro k
    induction k with
    | zero => intro u g h; have := hB u g; have := hH.2.2 u g; have := hH.1.1; omega
    | succ k ih =>
      intro u g h
      have ⟨a, b⟩ := h1 u g
      by_cases e : T u = ((d u : Nat) : Int)
      · omega
      · have ⟨v, w, e1, e2, e3⟩ := rt_T_first hH hl hT g e
        have := rt_key hH e1 e2
        have := ih v (hH.2.1 u v w e1).2 (by omega)
        have := hc u v w e1 e2
        omega
  intro u g
  have := hB u g; have := hH.2.2 u g; have := hH.1.1
  exact this_1 (48 * B + 48).toNat u g (by omega)

/-- a round makes one more tail final, as long as not all are -/
theorem rt_T_step {E gt d n r T} {t t' : Nat → Int} {B : Int} {m : Nat} (hH : rt_H E gt d n) (hl : rt_leg E r) (hB : ∀ u, gt u → 0 ≤ r u ∧ r u ≤ B) (hT : rt_T E gt d n r T)
    (h1 : ∀ u, gt u → ((d u : Nat) : Int) ≤ t u ∧ t u ≤ t' u ∧ t' u ≤ T u) (hc : ∀ u v w, E u v w → r v = r u + (w : Int) → ((d u : Nat) : Int) + t v ≤ t' u)
    (hm : m ≤ rt_cnt (fun u => gt u → t u = T u) n) (hne : ∃ u, gt u ∧ t u ≠ T u) : m + 1 ≤ rt_cnt (fun u => gt u → t' u = T u) n := by
  have ⟨u0, g0, n0⟩ := hne
  have ⟨k, ⟨u, g, nu, ek⟩, hk⟩ := rt_max (p := fun k => ∃ u, gt u ∧ t u ≠ T u ∧ k = 48 * r u + (u : Int)) (48 * B + 48) (fun k ⟨u, g, _, e⟩ => by
    have := hB u g; have := hH.2.2 u g; have := hH.1.1; omega) ⟨_, u0, g0, n0, rfl⟩
  have fin : t' u = T u := by
    have ⟨a, b, c⟩ := h1 u g
    by_cases e : T u = ((d u : Nat) : Int)
    · omega
    · have ⟨v, w, e1, e2, e3⟩ := rt_T_first hH hl hT g e
      have k1 := rt_key hH e1 e2
      have gv := (hH.2.1 u v w e1).2
      have : t v = T v := Classical.byContradiction fun hh => by
        have := hk _ ⟨v, gv, hh, rfl⟩; omega
      have := hc u v w e1 e2
      omega
  have := rt_cnt_lt (p := fun u => gt u → t u = T u) (q := fun u => gt u → t' u = T u) (n := n) (j := u)
    (fun i _ h gi => by have := h gi; have ⟨_, b, c⟩ := h1 i gi; omega) (hH.2.2 u g) (fun _ => fin) (fun h => nu (h g))
  omega

/-! ## the reference's constraints -/
def rt_R (gt : Nat → Prop) (d : Nat → Nat) (F S : Nat → Nat → Nat) (P : Int) (u v : Nat) (k : Int) : Prop :=
  gt u ∧ gt v ∧ F u v < 1000000 ∧ k = (F u v : Int) - (if P < ((S u v + d v : Nat) : Int) then 1 else 0)

theorem rt_R_of_C {E gt d n F S r0 s} {P : Int} (hH : rt_H E gt d n) (hF : rt_FW E d n F S n) (h : rt_S gt (rt_C E gt d n P) r0 s) : rt_S gt (rt_R gt d F S P) r0 s := by
  refine ⟨h.1, fun u v k ⟨gu, gv, h1, h2⟩ => ?_⟩
  by_cases e : u = v
  · subst e
    have ⟨f1, f2⟩ := hF.2.1 u (hH.2.2 u gu)
    have := h.2 u u _ (.inl ⟨rfl, gu, rfl⟩)
    rw [f1, f2] at h2
    rw [Nat.zero_add] at h2
    omega
  · have ⟨m, hw⟩ := hF.1 u v (hH.2.2 u gu) (hH.2.2 v gv) e h1
    have := h.2 u v _ (.inr ⟨m, _, _, hw, rfl⟩)
    omega

theorem rt_C_of_R {E gt d n F S r0 s} {P : Int} (hH : rt_H E gt d n) (hF : rt_FW E d n F S n) (h : rt_S gt (rt_R gt d F S P) r0 s) : rt_S gt (rt_C E gt d n P) r0 s := by
  refine ⟨h.1, fun u v k hk => ?_⟩
  rcases hk with ⟨h1, gu, h3⟩ | ⟨m, w, dl, h1, h2⟩
  · subst h1
    have ⟨f1, f2⟩ := hF.2.1 u (hH.2.2 u gu)
    have := h.2 u u _ ⟨gu, gu, by omega, rfl⟩
    rw [f1, f2, Nat.zero_add] at this
    omega
  · have ⟨gu, gv⟩ := rt_W_end hH.2.1 h1
    have ⟨a, b⟩ := rt_FW_all hH.1 hF h1
    have := h.2 u v _ ⟨gu, gv, a, rfl⟩
    unfold rt_lx at b
    split at this <;> split at h2 <;> omega

theorem rt_skip {E d n F S k} {gt : Nat → Prop} (hH : rt_H E gt d n) (h : rt_FW E d n F S k) (hk : k < n) (hg : ¬ gt k) : rt_FW E d n F S (k + 1) := by
  have ⟨f1, f2, f3, f4⟩ := h
  refine ⟨fun u v hu hv ne hf => ?_, f2, f3, fun j hj hjn u v hu hv a b => ?_⟩
  · have ⟨m, w⟩ := f1 u v hu hv ne hf; exact ⟨m, rt_W_mono (Nat.le_succ k) w⟩
  · by_cases e : j = k
    · subst e
      by_cases e : u = j
      · subst e
        have ⟨d1, d2⟩ := f2 u hu
        refine ⟨b, ?_⟩
        unfold rt_lx; omega
      · have ⟨m, w⟩ := f1 u j hu hjn e a
        exact absurd (rt_W_end hH.2.1 w).2 hg
    · exact f4 j (by omega) hjn u v hu hv a b

/-- a trial below the least solution meets a binding constraint -/
theorem rt_bind {gt : Nat → Prop} {C : Nat → Nat → Int → Prop} {r0 r l : Nat → Int} (hC : ∀ u v k, C u v k → gt u ∧ gt v) (hl : rt_L gt C r0 l)
    (h0 : ∀ u, gt u → r0 u ≤ r u) (hle : ∀ u, gt u → r u ≤ l u) (hne : ∃ v, gt v ∧ r v < l v) : ∃ u v k, C u v k ∧ r v = l v ∧ r u < l u ∧ l v = l u + k := by
  have ⟨v0, g0, n0⟩ := hne
  refine Classical.byContradiction fun hno => ?_
  have h := hl.2 (fun u => if r u < l u then l u - 1 else l u) ⟨fun u g => by
      have := hl.1.1 u g; have := h0 u g; simp only; split <;> omega, fun u v k c => by
      have h1 := hl.1.2 u v k c
      have ⟨gu, gv⟩ := hC u v k c
      have h2 := hle u gu
      have h3 := hle v gv
      simp only
      split
      · split <;> omega
      · split
        · refine Classical.byContradiction fun hlt => hno ⟨u, v, k, c, by omega, by omega, by omega⟩
        · omega⟩ v0 g0
  rw [if_pos n0] at h
  omega

theorem rt_ref_step {gt : Nat → Prop} {C : Nat → Nat → Int → Prop} {r r' l : Nat → Int} {n m : Nat} (hC : ∀ u v k, C u v k → gt u ∧ gt v) (hgn : ∀ u, gt u → u < n) (hl : rt_L gt C (fun _ => 0) l)
    (h0 : ∀ u, gt u → 0 ≤ r u) (hle : ∀ u, gt u → r u ≤ r' u ∧ r' u ≤ l u) (hx : ∀ u v k, C u v k → r v ≤ r' u + k) (hm : m ≤ rt_cnt (fun u => gt u → r u = l u) n)
    (hne : ¬ ∀ u v k, C u v k → r v ≤ r u + k) : m + 1 ≤ rt_cnt (fun u => gt u → r' u = l u) n := by
  have n1 : ∃ v, gt v ∧ r v < l v := by
    refine Classical.byContradiction fun hno => hne fun u v k c => ?_
    have ⟨gu, gv⟩ := hC u v k c
    have e : ∀ v, gt v → r v = l v := fun v g => by
      refine Classical.byContradiction fun hh => hno ⟨v, g, ?_⟩
      have := hle v g; omega
    rw [e u gu, e v gv]
    exact hl.1.2 u v k c
  have ⟨u, v, k, c, e1, e2, e3⟩ := rt_bind hC hl h0 (fun u g => by have := hle u g; omega) n1
  have ⟨gu, gv⟩ := hC u v k c
  have := rt_cnt_lt (p := fun u => gt u → r u = l u) (q := fun u => gt u → r' u = l u) (n := n) (j := u)
    (fun i _ h gi => by have := h gi; have := hle i gi; omega) (hgn u gu) (fun _ => by have := hx u v k c; have := hle u gu; omega) (fun h => by have := h gu; omega)
  omega

/-- what both sides find: the least period that can be reached, and the least moves for it -/
def rt_F (E : Nat → Nat → Nat → Prop) (I : Nat → Nat → Prop) (gt : Nat → Prop) (d : Nat → Nat) (n : Nat) (P : Int) : Prop := ∃ s, rt_S gt (rt_C E gt d n P) (fun _ => 0) s ∧ rt_in I s
def rt_B (E : Nat → Nat → Nat → Prop) (I : Nat → Nat → Prop) (gt : Nat → Prop) (d : Nat → Nat) (n : Nat) (P : Int) (mv : Nat → Int) : Prop :=
  0 ≤ P ∧ rt_L gt (rt_C E gt d n P) (fun _ => 0) mv ∧ rt_in I mv ∧ (P = 0 ∨ ¬ rt_F E I gt d n (P - 1))

theorem rt_F_mono {E I gt d n P P'} (hP : P ≤ P') (h : rt_F E I gt d n P) : rt_F E I gt d n P' := by
  have ⟨s, h1, h2⟩ := h
  exact ⟨s, rt_C_mono hP h1, h2⟩

theorem rt_B_unique {E I gt d n P mv P' mv'} (h : rt_B E I gt d n P mv) (h' : rt_B E I gt d n P' mv') : P = P' ∧ ∀ u, gt u → mv u = mv' u := by
  have ⟨a1, a2, a3, a4⟩ := h
  have ⟨b1, b2, b3, b4⟩ := h'
  have f1 : rt_F E I gt d n P := ⟨mv, a2.1, a3⟩
  have f2 : rt_F E I gt d n P' := ⟨mv', b2.1, b3⟩
  have e : P = P' := by
    by_cases l : P < P'
    · rcases b4 with b4 | b4
      · omega
      · exact absurd (rt_F_mono (by omega) f1) b4
    · by_cases l : P' < P
      · rcases a4 with a4 | a4
        · omega
        · exact absurd (rt_F_mono (by omega) f2) a4
      · omega
  subst e
  refine ⟨rfl, fun u g => ?_⟩
  have := a2.2 mv' b2.1 u g
  have := b2.2 mv a2.1 u g
  omega
