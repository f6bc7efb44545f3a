/-! Gates behind those that reach them without a latch: order and values. Own work. -/
theorem rt_prog2 {gt pl : Nat → Prop} {pn : Nat → Nat} {src kp : Nat → Nat → Nat} {key : Nat → Nat}
    (hk : ∀ g p, gt g → p < pn g → gt (src g p) → kp g p = 0 → key (src g p) < key g) (how : ∃ g, gt g ∧ ¬ pl g) :
    ∃ g, gt g ∧ ¬ pl g ∧ ∀ p, p < pn g → gt (src g p) → kp g p = 0 → pl (src g p) := by
  have ⟨g0, h0, l0⟩ := how
  have ⟨k, ⟨g, hg, hl, ek⟩, hm⟩ := rt_min (p := fun k => ∃ g, gt g ∧ ¬ pl g ∧ k = (key g : Int)) 0 (fun k ⟨g, _, _, e⟩ => by omega) ⟨_, g0, h0, l0, rfl⟩
  refine ⟨g, hg, hl, fun p hp hs h0 => Classical.byContradiction fun hn => ?_⟩
  have := hm _ ⟨_, hs, hn, rfl⟩
  have := hk g p hg hp hs h0
  omega
/-- the value that comes in at a pin -/
def rt_ar (v : Nat → Bool) (src kp : Nat) (row : Nat) : Bool := if kp = 0 then v src else row.testBit (kp - 1)
def rt_vals (gt : Nat → Prop) (pn : Nat → Nat) (src kp row : Nat → Nat → Nat) (cv : Nat → Nat → Bool) (v : Nat → Bool) : Prop :=
  ∀ g, gt g → v g = cv g (pb (fun p => rt_ar v (src g p) (kp g p) (row g p)) (pn g))
theorem rt_uniq {gt : Nat → Prop} {pn : Nat → Nat} {src kp row : Nat → Nat → Nat} {cv : Nat → Nat → Bool} {key : Nat → Nat} {v v' : Nat → Bool}
    (hk : ∀ g p, gt g → p < pn g → gt (src g p) → kp g p = 0 → key (src g p) < key g) (h : rt_vals gt pn src kp row cv v) (h' : rt_vals gt pn src kp row cv v')
    (hin : ∀ g p, gt g → p < pn g → ¬ gt (src g p) → v (src g p) = v' (src g p)) : ∀ g, gt g → v g = v' g := by
  have : ∀ k g, gt g → key g < k → v g = v' g := by
    intro k
    induction k with
    | zero => intro g _ h; omega
    | succ k ih =>
      intro g hg hlt
      rw [h g hg, h' g hg]
      congr 1
      refine pb_congr fun p hp => ?_
      unfold rt_ar
      by_cases e : kp g p = 0
      · rw [if_pos e, if_pos e]
        by_cases hs : gt (src g p)
        · exact ih _ hs (by have := hk g p hg hp hs e; omega)
        · exact hin g p hg hp hs
      · rw [if_neg e, if_neg e]
  intro g hg
  exact this (key g + 1) g hg (by omega)
theorem rt_key2 {gt : Nat → Prop} {pn : Nat → Nat} {src lt kp : Nat → Nat → Nat} {mv : Nat → Nat} (hgn : ∀ g, gt g → g < 48) (hz : ∀ g p, gt g → p < pn g → lt g p = 0 → src g p < g)
    (hkp : ∀ g p, gt g → p < pn g → gt (src g p) → kp g p + mv g = mv (src g p) + lt g p) :
    ∀ g p, gt g → p < pn g → gt (src g p) → kp g p = 0 → 48 * mv (src g p) + src g p < 48 * mv g + g := by
  intro g p hg hp hs h0
  have h1 := hkp g p hg hp hs
  have h2 := hgn g hg
  have h3 := hgn _ hs
  by_cases e : lt g p = 0
  · have := hz g p hg hp e; omega
  · omega
