/-! Choosing the first of the cheapest: pure. Own work. -/
abbrev ChS : Type := Nat × Option (Nat × Nat × List Nat)
def ch1 (lay : Nat → Nat → Option (List Nat)) (val : Nat → List Nat → Nat) (c sw : Nat) (st : ChS) : ChS :=
  match lay c sw with
  | none => st
  | some pins => if val c pins < st.1 then (val c pins, some (c, sw, pins)) else st
def chW (lay : Nat → Nat → Option (List Nat)) (val : Nat → List Nat → Nat) (c : Nat) : Nat → ChS → ChS
  | 0, st => st
  | k + 1, st => ch1 lay val c k (chW lay val c k st)
def chC (lay : Nat → Nat → Option (List Nat)) (val : Nat → List Nat → Nat) (ways : Nat → Nat) : Nat → ChS → ChS
  | 0, st => st
  | c + 1, st => chW lay val c (ways c) (chC lay val ways c st)
theorem ch1_n {lay : Nat → Nat → Option (List Nat)} {val : Nat → List Nat → Nat} {c sw : Nat} {st : ChS} (h : lay c sw = none) : ch1 lay val c sw st = st := by unfold ch1; rw [h]
theorem ch1_s {lay : Nat → Nat → Option (List Nat)} {val : Nat → List Nat → Nat} {c sw : Nat} {st : ChS} {pins : List Nat} (h : lay c sw = some pins) :
    ch1 lay val c sw st = if val c pins < st.1 then (val c pins, some (c, sw, pins)) else st := by unfold ch1; rw [h]
/-- two searches from two bounds -/
def Rl (B : Nat) (s t : ChS) : Prop := s = t ∨ (s = (B, none) ∧ B ≤ t.1)
theorem ch1_rel {lay : Nat → Nat → Option (List Nat)} {val : Nat → List Nat → Nat} {c sw B : Nat} {s t : ChS} (h : Rl B s t) : Rl B (ch1 lay val c sw s) (ch1 lay val c sw t) := by
  cases e : lay c sw with
  | none => rw [ch1_n e, ch1_n e]; exact h
  | some pins =>
    rw [ch1_s e, ch1_s e]
    rcases h with h | ⟨h1, h2⟩
    · rw [h]; exact .inl rfl
    · subst h1
      by_cases a : val c pins < B
      · rw [if_pos a, if_pos (by omega)]; exact .inl rfl
      · rw [if_neg a]
        refine .inr ⟨rfl, ?_⟩
        split <;> (try simp only) <;> omega
theorem chW_rel {lay : Nat → Nat → Option (List Nat)} {val : Nat → List Nat → Nat} {c B : Nat} {s t : ChS} (h : Rl B s t) : ∀ k, Rl B (chW lay val c k s) (chW lay val c k t)
  | 0 => h
  | k + 1 => ch1_rel (chW_rel h k)
theorem chC_rel {lay : Nat → Nat → Option (List Nat)} {val : Nat → List Nat → Nat} {ways : Nat → Nat} {B : Nat} {s t : ChS} (h : Rl B s t) : ∀ c, Rl B (chC lay val ways c s) (chC lay val ways c t)
  | 0 => h
  | c + 1 => chW_rel (chC_rel h c) _
theorem ch1_le {lay : Nat → Nat → Option (List Nat)} {val : Nat → List Nat → Nat} {c sw : Nat} {st : ChS} : (ch1 lay val c sw st).1 ≤ st.1 := by
  cases e : lay c sw with
  | none => rw [ch1_n e]; exact Nat.le_refl _
  | some pins => rw [ch1_s e]; split <;> (try simp only) <;> omega
theorem chW_le {lay : Nat → Nat → Option (List Nat)} {val : Nat → List Nat → Nat} {c : Nat} {st : ChS} : ∀ k, (chW lay val c k st).1 ≤ st.1
  | 0 => Nat.le_refl _
  | k + 1 => Nat.le_trans ch1_le (chW_le k)
theorem chW_hit {lay : Nat → Nat → Option (List Nat)} {val : Nat → List Nat → Nat} {c sw : Nat} {st : ChS} {pins : List Nat} (h : lay c sw = some pins) : ∀ k, sw < k → (chW lay val c k st).1 ≤ val c pins
  | 0 => fun q => by omega
  | k + 1 => fun q => by
    by_cases e : sw = k
    · subst e
      show (ch1 lay val c sw _).1 ≤ _
      rw [ch1_s h]
      split <;> (try simp only) <;> omega
    · exact Nat.le_trans ch1_le (chW_hit h k (by omega))
theorem chC_hit {lay : Nat → Nat → Option (List Nat)} {val : Nat → List Nat → Nat} {ways : Nat → Nat} {c sw : Nat} {st : ChS} {pins : List Nat} (h : lay c sw = some pins) (hs : sw < ways c) : ∀ m, c < m → (chC lay val ways m st).1 ≤ val c pins
  | 0 => fun q => by omega
  | m + 1 => fun q => by
    by_cases e : c = m
    · subst e; exact chW_hit h _ hs
    · exact Nat.le_trans (chW_le _) (chC_hit h hs m (by omega))
/-- what was chosen, was laid -/
def ChOk (lay : Nat → Nat → Option (List Nat)) (val : Nat → List Nat → Nat) (ways : Nat → Nat) (m B : Nat) (st : ChS) : Prop :=
  (st = (B, none)) ∨ ∃ c sw pins, st = (val c pins, some (c, sw, pins)) ∧ lay c sw = some pins ∧ c < m ∧ sw < ways c
theorem chC_ok {lay : Nat → Nat → Option (List Nat)} {val : Nat → List Nat → Nat} {ways : Nat → Nat} {B : Nat} : ∀ m, ChOk lay val ways m B (chC lay val ways m (B, none)) := by
  have one : ∀ {c sw m st}, c < m → sw < ways c → ChOk lay val ways m B st → ChOk lay val ways m B (ch1 lay val c sw st) := by
    intro c sw m st hc hs h
    cases e : lay c sw with
    | none => rw [ch1_n e]; exact h
    | some pins =>
      rw [ch1_s e]
      split
      · exact .inr ⟨c, sw, pins, rfl, e, hc, hs⟩
      · exact h
  have many : ∀ {c m st}, c < m → ChOk lay val ways m B st → ∀ k, k ≤ ways c → ChOk lay val ways m B (chW lay val c k st) := by
    intro c m st hc h k
    induction k with
    | zero => intro _; exact h
    | succ k ih => intro hk; exact one hc (by omega) (ih (by omega))
  intro m
  induction m with
  | zero => exact .inl rfl
  | succ m ih =>
    refine many (by omega) ?_ _ (Nat.le_refl _)
    rcases ih with h | ⟨c, sw, pins, h1, h2, h3, h4⟩
    · exact .inl h
    · exact .inr ⟨c, sw, pins, h1, h2, by omega, h4⟩
/-- both bounds lead to the same choice, where one is to be had below the smaller -/
theorem chC_same {lay : Nat → Nat → Option (List Nat)} {val : Nat → List Nat → Nat} {ways : Nat → Nat} {m B C c sw : Nat} {pins : List Nat} (hBC : B ≤ C) (h : lay c sw = some pins) (hs : sw < ways c) (hc : c < m) (hv : val c pins < B) :
    chC lay val ways m (B, none) = chC lay val ways m (C, none) ∧ (chC lay val ways m (C, none)).1 ≤ val c pins ∧
    ∃ c' sw' pins', chC lay val ways m (C, none) = (val c' pins', some (c', sw', pins')) ∧ lay c' sw' = some pins' ∧ c' < m ∧ sw' < ways c' := by
  have h1 := chC_hit (val := val) (ways := ways) (st := (B, none)) h hs m hc
  have h2 := chC_hit (val := val) (ways := ways) (st := (C, none)) h hs m hc
  have e : chC lay val ways m (B, none) = chC lay val ways m (C, none) := by
    rcases chC_rel (lay := lay) (val := val) (ways := ways) (B := B) (s := (B, none)) (t := (C, none)) (.inr ⟨rfl, hBC⟩) m with h | ⟨_, h⟩
    · exact h
    · omega
  refine ⟨e, h2, ?_⟩
  rcases chC_ok (lay := lay) (val := val) (ways := ways) (B := C) m with h | h
  · rw [h] at h2; simp only at h2; omega
  · exact h
theorem chC_congr {lay lay' : Nat → Nat → Option (List Nat)} {val val' : Nat → List Nat → Nat} {ways : Nat → Nat} {st : ChS} : ∀ m, (∀ c sw, c < m → sw < ways c → lay c sw = lay' c sw ∧ ∀ pins, lay c sw = some pins → val c pins = val' c pins) →
    chC lay val ways m st = chC lay' val' ways m st := by
  have one : ∀ {c sw st}, lay c sw = lay' c sw → (∀ pins, lay c sw = some pins → val c pins = val' c pins) → ch1 lay val c sw st = ch1 lay' val' c sw st := by
    intro c sw st h1 h2
    cases e : lay c sw with
    | none => rw [ch1_n e, ch1_n (h1 ▸ e)]
    | some pins => rw [ch1_s e, ch1_s (h1 ▸ e), h2 pins e]
  have many : ∀ {c st} k, (∀ sw, sw < k → lay c sw = lay' c sw ∧ ∀ pins, lay c sw = some pins → val c pins = val' c pins) → chW lay val c k st = chW lay' val' c k st := by
    intro c st k
    induction k with
    | zero => intro _; rfl
    | succ k ih => intro h; show ch1 lay val c k _ = ch1 lay' val' c k _; rw [ih fun sw hs => h sw (by omega), one (h k (by omega)).1 (h k (by omega)).2]
  intro m
  induction m with
  | zero => intro _; rfl
  | succ m ih =>
    intro h
    show chW lay val m _ _ = chW lay' val' m _ _
    rw [ih fun c sw hc hs => h c sw (by omega) hs, many _ fun sw hs => h m sw (by omega) hs]
