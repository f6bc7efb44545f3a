/-! ## walks of one edge or more; m + 1 edges, all inner nodes below k; w latches, dl the delay of all nodes but the last -/
def rt_W (E : Nat → Nat → Nat → Prop) (d : Nat → Nat) (k : Nat) : Nat → Nat → Nat → Nat → Nat → Prop
  | 0, u, v, w, dl => E u v w ∧ dl = d u
  | m + 1, u, v, w, dl => ∃ y w1 d1 w2, rt_W E d k m u y w1 d1 ∧ y < k ∧ E y v w2 ∧ w = w1 + w2 ∧ dl = d1 + d y

theorem rt_W_mono {E d k k'} (h : k ≤ k') : ∀ {m u v w dl}, rt_W E d k m u v w dl → rt_W E d k' m u v w dl := by
  intro m
  induction m with
  | zero => intro u v w dl hh; exact hh
  | succ m ih =>
    intro u v w dl ⟨y, w1, d1, w2, h1, h2, h3, h4, h5⟩
    exact ⟨y, w1, d1, w2, ih h1, by omega, h3, h4, h5⟩

theorem rt_W_cat {E d k} {m u y w1 d1} (h : rt_W E d k m u y w1 d1) (hy : y < k) : ∀ {m' v w2 d2}, rt_W E d k m' y v w2 d2 → rt_W E d k (m + m' + 1) u v (w1 + w2) (d1 + d2) := by
  intro m'
  induction m' with
  | zero => intro v w2 d2 ⟨h1, h2⟩; exact ⟨y, w1, d1, w2, h, hy, h1, rfl, by omega⟩
  | succ m' ih =>
    intro v w2 d2 ⟨z, w3, d3, w4, h1, h2, h3, h4, h5⟩
    exact ⟨z, w1 + w3, d1 + d3, w4, ih h1, h2, h3, by omega, by omega⟩

theorem rt_W_end {E d k} {gt : Nat → Prop} (hg : ∀ u v w, E u v w → gt u ∧ gt v) : ∀ {m u v w dl}, rt_W E d k m u v w dl → gt u ∧ gt v := by
  intro m
  induction m with
  | zero => intro u v w dl ⟨h, _⟩; exact hg _ _ _ h
  | succ m ih => intro u v w dl ⟨y, w1, d1, w2, h1, _, h3, _⟩; exact ⟨(ih h1).1, (hg _ _ _ h3).2⟩

theorem rt_W_pos {E d k} (hz : ∀ u v, E u v 0 → u < v) : ∀ {m u v dl}, rt_W E d k m u v 0 dl → u < v := by
  intro m
  induction m with
  | zero => intro u v dl ⟨h, _⟩; exact hz _ _ h
  | succ m ih =>
    intro u v dl ⟨y, w1, d1, w2, h1, _, h3, h4, _⟩
    have e1 : w1 = 0 := by omega
    have e2 : w2 = 0 := by omega
    subst e1; subst e2
    have := ih h1; have := hz _ _ h3; omega

theorem rt_W_dl {E : Nat → Nat → Nat → Prop} {d : Nat → Nat} {k} (hz : ∀ u v, E u v 0 → u < v) (hd : ∀ u, d u ≤ 1000) (hn : ∀ u v w, E u v w → u < 48) :
    ∀ {m u v w dl}, rt_W E d k m u v w dl → dl + 1000 * u ≤ 48000 * w + 1000 * v := by
  have one : ∀ u v w, E u v w → d u + 1000 * u ≤ 48000 * w + 1000 * v := by
    intro u v w h
    have h1 := hd u
    have h2 := hn u v w h
    by_cases e : w = 0
    · subst e; have := hz u v h; omega
    · omega
  intro m
  induction m with
  | zero => intro u v w dl ⟨h, e⟩; have := one u v w h; omega
  | succ m ih =>
    intro u v w dl ⟨y, w1, d1, w2, h1, _, h3, h4, h5⟩
    have := ih h1; have := one _ _ _ h3; omega

theorem rt_W_w6 {E : Nat → Nat → Nat → Prop} {d : Nat → Nat} {k} (h6 : ∀ u v w, E u v w → w ≤ 6) : ∀ {m u v w dl}, rt_W E d k m u v w dl → w ≤ 6 * (m + 1) := by
  intro m
  induction m with
  | zero => intro u v w dl ⟨h, e⟩; have := h6 _ _ _ h; omega
  | succ m ih =>
    intro u v w dl ⟨y, w1, d1, w2, h1, _, h3, h4, h5⟩
    have := ih h1; have := h6 _ _ _ h3; omega

theorem rt_W_short {E : Nat → Nat → Nat → Prop} {d : Nat → Nat} {k n : Nat} (hn : ∀ u v w, E u v w → u < n ∧ v < n) {m u v w dl} (h : rt_W E d k m u v w dl) :
    ∃ m' w' dl', m' < n ∧ rt_W E d k m' u v w' dl' := by
  have hv : ∀ {m v w dl}, rt_W E d k m u v w dl → v < n := fun h => (rt_W_end (gt := fun u => u < n) hn h).2
  have := rt_still (A := fun m v => ∃ m' w' dl', m' < m ∧ rt_W E d k m' u v w' dl') (n := n) (fun m v _ ⟨m', w', dl', h1, h2⟩ => ⟨m', w', dl', by omega, h2⟩)
    (fun m hs v hvn ⟨m', w', dl', h1, h2⟩ => by
      match m', h2 with
      | 0, h2 => exact ⟨0, w', dl', by omega, h2⟩
      | j + 1, h2 =>
        have ⟨y, w1, d1, w2, g1, g2, g3, g4, g5⟩ := h2
        have ⟨j', w3, d3, g6, g7⟩ := hs y (hv g1) ⟨j, w1, d1, by omega, g1⟩
        exact ⟨j' + 1, w3 + w2, d3 + d y, by omega, y, w3, d3, w2, g7, g2, g3, rfl, rfl⟩) (m + 1) v (hv h) ⟨m, w, dl, by omega, h⟩
  exact this

/-- (a, b) is as good as (c, e): fewer latches, or as many and no less delay -/
def rt_lx (a b c e : Nat) : Prop := a < c ∨ (a = c ∧ e ≤ b)

/-- the picture of the two matrices when the nodes below k are through -/
def rt_FW (E : Nat → Nat → Nat → Prop) (d : Nat → Nat) (n : Nat) (F S : Nat → Nat → Nat) (k : Nat) : Prop :=
  (∀ u v, u < n → v < n → u ≠ v → F u v < 1000000 → ∃ m, rt_W E d k m u v (F u v) (S u v)) ∧
  (∀ u, u < n → F u u = 0 ∧ S u u = 0) ∧
  (∀ u v w, E u v w → F u v < 1000000 ∧ rt_lx (F u v) (S u v) w (d u)) ∧
  (∀ j, j < k → j < n → ∀ u v, u < n → v < n → F u j < 1000000 → F j v < 1000000 → F u v < 1000000 ∧ rt_lx (F u v) (S u v) (F u j + F j v) (S u j + S j v))

/-- what the whole is built on -/
def rt_E (E : Nat → Nat → Nat → Prop) (d : Nat → Nat) (n : Nat) : Prop :=
  n ≤ 48 ∧ (∀ u v, E u v 0 → u < v) ∧ (∀ u, d u ≤ 1000) ∧ (∀ u v w, E u v w → u < n ∧ v < n) ∧ (∀ u v w, E u v w → w ≤ 6)

theorem rt_FW_all {E d n F S k} (hE : rt_E E d n) (h : rt_FW E d n F S k) : ∀ {m u v w dl}, rt_W E d k m u v w dl → F u v < 1000000 ∧ rt_lx (F u v) (S u v) w dl := by
  have ⟨hn, hz, hd, hb, h6⟩ := hE
  have ⟨f1, f2, f3, f4⟩ := h
  intro m
  induction m with
  | zero => intro u v w dl ⟨h1, h2⟩; subst h2; exact f3 u v w h1
  | succ m ih =>
    intro u v w dl ⟨y, w1, d1, w2, h1, h2, h3, h4, h5⟩
    have ⟨i1, i2⟩ := ih h1
    have ⟨e1, e2⟩ := f3 y v w2 h3
    have hu : u < n := (rt_W_end (gt := fun u => u < n) hb h1).1
    have ⟨hy, hv⟩ := hb _ _ _ h3
    have ⟨t1, t2⟩ := f4 y h2 hy u v hu hv i1 e1
    refine ⟨t1, ?_⟩
    unfold rt_lx at *
    omega

theorem rt_FW_bd {E d n F S k} (hE : rt_E E d n) (h : rt_FW E d n F S k) {u v} (hu : u < n) (hv : v < n) (hf : F u v < 1000000) : F u v ≤ 288 ∧ S u v ≤ 13871000 := by
  have ⟨hn, hz, hd, hb, h6⟩ := hE
  have ⟨f1, f2, f3, f4⟩ := h
  by_cases e : u = v
  · subst e; have := f2 u hu; omega
  · have ⟨m, hw⟩ := f1 u v hu hv e hf
    have ⟨m', w', dl', g1, g2⟩ := rt_W_short hb hw
    have g3 := rt_W_w6 h6 g2
    have ⟨g4, g5⟩ := rt_FW_all hE h g2
    have g6 := rt_W_dl hz hd (fun u v w h => by have := hb u v w h; omega) hw
    unfold rt_lx at g5
    omega

theorem rt_FW_zero {E d n F S k} (hE : rt_E E d n) (h : rt_FW E d n F S k) {u v} (hu : u < n) (hv : v < n) (hne : u ≠ v) (hf : F u v = 0) : u < v := by
  have ⟨hn, hz, hd, hb, h6⟩ := hE
  have ⟨m, hw⟩ := h.1 u v hu hv hne (by omega)
  rw [hf] at hw
  exact rt_W_pos hz hw

/-- one stage -/
theorem rt_stage {E d n F S F' S' k} (hE : rt_E E d n) (h : rt_FW E d n F S k) (hk : k < n)
    (hs : ∀ u v, u < n → v < n →
      ((F u k < 1000000 ∧ F k v < 1000000 ∧ (F u k + F k v < F u v ∨ F u k + F k v = F u v ∧ S u v < S u k + S k v)) ∧ F' u v = F u k + F k v ∧ S' u v = S u k + S k v) ∨
      (¬ (F u k < 1000000 ∧ F k v < 1000000 ∧ (F u k + F k v < F u v ∨ F u k + F k v = F u v ∧ S u v < S u k + S k v)) ∧ F' u v = F u v ∧ S' u v = S u v)) :
    rt_FW E d n F' S' (k + 1) := by
  have ⟨hn, hz, hd, hb, h6⟩ := hE
  have ⟨f1, f2, f3, f4⟩ := h
  have ⟨kk1, kk2⟩ := f2 k hk
  -- row and column k stand
  have hcol : ∀ u, u < n → F' u k = F u k ∧ S' u k = S u k := by
    intro u hu
    rcases hs u k hu hk with ⟨⟨a, b, c⟩, e⟩ | ⟨a, b⟩
    · omega
    · exact b
  have hrow : ∀ v, v < n → F' k v = F k v ∧ S' k v = S k v := by
    intro v hv
    rcases hs k v hk hv with ⟨⟨a, b, c⟩, e⟩ | ⟨a, b⟩
    · omega
    · exact b
  have hne : ∀ u v, u < n → v < n → F u v < 1000000 → F' u v < 1000000 ∧ rt_lx (F' u v) (S' u v) (F u v) (S u v) := by
    intro u v hu hv hf
    unfold rt_lx
    rcases hs u v hu hv with ⟨⟨a, b, c⟩, e⟩ | ⟨a, b⟩ <;> omega
  have hvia : ∀ u v, u < n → v < n → F u k < 1000000 → F k v < 1000000 → F' u v < 1000000 ∧ rt_lx (F' u v) (S' u v) (F u k + F k v) (S u k + S k v) := by
    intro u v hu hv a1 a2
    have b1 := rt_FW_bd hE h hu hk a1
    have b2 := rt_FW_bd hE h hk hv a2
    unfold rt_lx
    rcases hs u v hu hv with ⟨⟨a, b, c⟩, e⟩ | ⟨a, b⟩ <;> omega
  refine ⟨fun u v hu hv ne hf => ?_, fun u hu => ?_, fun u v w he => ?_, fun j hj hjn u v hu hv a1 a2 => ?_⟩
  · rcases hs u v hu hv with ⟨⟨a, b, c⟩, e1, e2⟩ | ⟨a, e1, e2⟩
    · have n1 : u ≠ k := by intro e; subst e; omega
      have n2 : k ≠ v := by intro e; subst e; omega
      have ⟨m1, w1⟩ := f1 u k hu hk n1 a
      have ⟨m2, w2⟩ := f1 k v hk hv n2 b
      rw [e1, e2]
      exact ⟨_, rt_W_cat (rt_W_mono (Nat.le_succ k) w1) (Nat.lt_succ_self k) (rt_W_mono (Nat.le_succ k) w2)⟩
    · rw [e1, e2]
      rw [e1] at hf
      have ⟨m, w⟩ := f1 u v hu hv ne hf
      exact ⟨m, rt_W_mono (Nat.le_succ k) w⟩
  · have ⟨u1, u2⟩ := f2 u hu
    rcases hs u u hu hu with ⟨⟨a, b, c⟩, e1, e2⟩ | ⟨a, e1, e2⟩
    · by_cases n1 : u = k
      · subst n1; omega
      · have z1 := rt_FW_zero hE h hu hk n1 (by omega)
        have z2 := rt_FW_zero hE h hk hu (fun e => n1 e.symm) (by omega)
        omega
    · omega
  · have ⟨hu, hv⟩ := hb u v w he
    have ⟨g1, g2⟩ := f3 u v w he
    have ⟨g3, g4⟩ := hne u v hu hv g1
    refine ⟨g3, ?_⟩
    unfold rt_lx at *
    omega
  · by_cases ej : j = k
    · subst ej
      have c1 := hcol u hu
      have c2 := hrow v hv
      rw [c1.1] at a1
      rw [c2.1] at a2
      have ⟨g1, g2⟩ := hvia u v hu hv a1 a2
      rw [c1.1, c1.2, c2.1, c2.2]
      exact ⟨g1, g2⟩
    · have hjk : j < k := by omega
      rcases hs u j hu hjn with ⟨⟨x1, x2, x3⟩, x4, x5⟩ | ⟨x1, x4, x5⟩ <;> rcases hs j v hjn hv with ⟨⟨y1, y2, y3⟩, y4, y5⟩ | ⟨y1, y4, y5⟩
      · have ⟨g1, g2⟩ := hvia u v hu hv x1 y2
        have ⟨g3, g4⟩ := f4 j hjk hjn k k hk hk x2 y1
        refine ⟨g1, ?_⟩
        rw [x4, x5, y4, y5]
        unfold rt_lx at *
        omega
      · rw [y4] at a2
        have ⟨g3, g4⟩ := f4 j hjk hjn k v hk hv x2 a2
        have ⟨g1, g2⟩ := hvia u v hu hv x1 g3
        refine ⟨g1, ?_⟩
        rw [x4, x5, y4, y5]
        unfold rt_lx at *
        omega
      · rw [x4] at a1
        have ⟨g3, g4⟩ := f4 j hjk hjn u k hu hk a1 y1
        have ⟨g1, g2⟩ := hvia u v hu hv g3 y2
        refine ⟨g1, ?_⟩
        rw [x4, x5, y4, y5]
        unfold rt_lx at *
        omega
      · rw [x4] at a1
        rw [y4] at a2
        have ⟨g3, g4⟩ := f4 j hjk hjn u v hu hv a1 a2
        have ⟨g1, g2⟩ := hne u v hu hv g3
        refine ⟨g1, ?_⟩
        rw [x4, x5, y4, y5]
        unfold rt_lx at *
        omega
