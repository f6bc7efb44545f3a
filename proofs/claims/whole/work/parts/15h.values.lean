/-! Values of nodes: the node of a table has the table's value. Own work. -/
/-- a valuation that keeps the nodes' own rules -/
def Vl (iv nd : Int32) (G : Gr) (v : Nat → Bool) : Prop := ∀ j, j < G.1 →
  (G.2.1 j = iv → v j = !v (G.2.2.1 j).toNatClampNeg) ∧ (G.2.1 j = nd → v j = !(v (G.2.2.1 j).toNatClampNeg && v (G.2.2.2 j).toNatClampNeg))
theorem Vl.low {iv nd : Int32} {G H : Gr} {v : Nat → Bool} (hle : G.1 ≤ H.1) (h : ∀ j, j < G.1 → H.2.1 j = G.2.1 j ∧ H.2.2.1 j = G.2.2.1 j ∧ H.2.2.2 j = G.2.2.2 j) (hv : Vl iv nd H v) : Vl iv nd G v := by
  intro j hj
  have ⟨e1, e2, e3⟩ := h j hj
  have := hv j (by omega)
  rw [e1, e2, e3] at this
  exact this
theorem Vl.down {iv nd : Int32} {c : Nat} {G : Gr} {o : Int32 × Gr} {v : Nat → Bool} (h : grown iv nd c G o) (hv : Vl iv nd o.2 v) : Vl iv nd G v := hv.low h.2.1 h.2.2.2.2
theorem fd_hit {p : Nat → Bool} : ∀ {f i : Nat}, fd p f i < i + f → p (fd p f i) = true
  | 0, i => fun h => by rw [fd_0] at h; omega
  | f + 1, i => fun h => by
    by_cases e : p i = true
    · rw [fd_t e]; exact e
    · rw [fd_f e] at h ⊢
      exact fd_hit (by omega)
theorem mk_at (G : Gr) (k x y : Int32) : (mk G k x y).1 < (mk G k x y).2.1 ∧ (mk G k x y).2.2.1 (mk G k x y).1 = k ∧ (mk G k x y).2.2.2.1 (mk G k x y).1 = x ∧ (mk G k x y).2.2.2.2 (mk G k x y).1 = y := by
  by_cases h : fd (hit G k x y) G.1 0 < G.1
  · have e : mk G k x y = (fd (hit G k x y) G.1 0, G) := if_pos h
    rw [e]
    have hh := of_decide_eq_true (fd_hit (p := hit G k x y) (f := G.1) (i := 0) (by omega))
    exact ⟨h, hh⟩
  · have e : mk G k x y = (G.1, addN G k x y) := if_neg h
    rw [e]
    simp only [addN, upd, reduceIte, and_self, and_true]
    omega
theorem inv_val {iv nd : Int32} (hne : ¬ iv = nd) {G : Gr} {x : Int32} {v : Nat → Bool} (hW : WFG iv nd G) (hn : G.1 < 48) (hx : isN G.1 x) (hv : Vl iv nd (invN iv G x).2 v) :
    v (invN iv G x).1.toNatClampNeg = !v x.toNatClampNeg := by
  have hg := inv_grown hne hW hn hx
  unfold invN at hv ⊢
  by_cases hk : G.2.1 x.toNatClampNeg = iv
  · rw [if_pos hk] at hv ⊢
    rw [(hv _ (hx.clamp hW.1).1).1 hk, Bool.not_not]
  · rw [if_neg hk] at hv ⊢
    have ⟨h1, h2, h3, h4⟩ := mk_at G iv x (-1)
    have hb : (mk G iv x (-1)).2.1 ≤ 48 := by
      unfold invN at hg; rw [if_neg hk] at hg; exact hg.1.1
    have := (hv _ h1).1 h2
    show v (nI (mk G iv x (-1)).1).toNatClampNeg = _
    rw [nI_clamp (by omega), this, h3]
theorem mk_val {iv nd : Int32} {G : Gr} {x y : Int32} {v : Nat → Bool} (hb : (mk G nd x y).2.1 ≤ 48) (hv : Vl iv nd (mk G nd x y).2 v) :
    v (nI (mk G nd x y).1).toNatClampNeg = !(v x.toNatClampNeg && v y.toNatClampNeg) := by
  have ⟨h1, h2, h3, h4⟩ := mk_at G nd x y
  have := (hv _ h1).2 h2
  rw [nI_clamp (by omega), this, h3, h4]
theorem nand_val {iv nd : Int32} (hne : ¬ iv = nd) {G : Gr} {x y : Int32} {v : Nat → Bool} (hW : WFG iv nd G) (hn : G.1 < 48) (hx : isN G.1 x) (hy : isN G.1 y) (hv : Vl iv nd (nandN iv nd G x y).2 v) :
    v (nandN iv nd G x y).1.toNatClampNeg = !(v x.toNatClampNeg && v y.toNatClampNeg) := by
  have hg := nand_grown hne hW hn hx hy
  unfold nandN at hv hg ⊢
  by_cases a : x = y
  · rw [if_pos a] at hv ⊢
    rw [inv_val hne hW hn hx hv, ← a, Bool.and_self]
  · rw [if_neg a] at hv hg ⊢
    by_cases b : x < y
    · rw [if_pos b] at hv hg ⊢; exact mk_val hg.1.1 hv
    · rw [if_neg b] at hv hg ⊢; rw [mk_val hg.1.1 hv, Bool.and_comm]
def hv_ (v : Nat → Bool) (lo : Nat) (l : Int32) : Bool := if lo = 0 then false else if lo = 1 then true else v l.toNatClampNeg
theorem join_val {iv nd : Int32} (ne : ¬ iv = nd) {G : Gr} {z l h : Int32} {lo hi : Nat} {v : Nat → Bool} (hW : WFG iv nd G) (hn : G.1 + 4 ≤ 48) (hz : isN G.1 z) (hl : ¬ lo < 2 → isN G.1 l) (hh : hi = 2 → isN G.1 h) (hlo : lo ≤ 2) (hhi : hi ≤ 2) (hd : lo < 2 → hi < 2 → ¬ lo = hi)
    (hv : Vl iv nd (joinN iv nd G z lo l hi h).2 v) : v (joinN iv nd G z lo l hi h).1.toNatClampNeg = if v z.toNatClampNeg = true then hv_ v hi h else hv_ v lo l := by
  unfold joinN at hv ⊢
  by_cases a : lo < 2 ∧ hi < 2
  · rw [if_pos a] at hv ⊢
    have := hd a.1 a.2
    by_cases b : lo = 0
    · rw [if_pos b]
      have e : hi = 1 := by omega
      subst b; subst e
      simp only [hv_, reduceIte, Nat.reduceEqDiff]
      cases v z.toNatClampNeg <;> rfl
    · rw [if_neg b] at hv ⊢
      rw [inv_val ne hW (by omega) hz hv]
      have e : hi = 0 := by omega
      have e2 : lo = 1 := by omega
      subst e; subst e2
      simp only [hv_, reduceIte, Nat.reduceEqDiff]
      cases v z.toNatClampNeg <;> rfl
  · rw [if_neg a] at hv ⊢
    by_cases b : lo < 2
    · rw [if_pos b] at hv ⊢
      have e : hi = 2 := by omega
      subst e
      have hh := hh rfl
      by_cases c : lo = 0
      · rw [if_pos c] at hv ⊢
        subst c
        have g1 := nand_grown ne hW (by omega) hz hh
        have g2 := inv_grown ne g1.1 (by have := g1.2.2.1; omega) g1.2.2.2.1
        rw [inv_val ne g1.1 (by have := g1.2.2.1; omega) g1.2.2.2.1 hv, nand_val ne hW (by omega) hz hh (hv.down g2)]
        simp only [hv_, reduceIte, Nat.reduceEqDiff]
        cases v z.toNatClampNeg <;> simp
      · rw [if_neg c] at hv ⊢
        have e : lo = 1 := by omega
        subst e
        have g1 := inv_grown ne hW (by omega) hh
        have g2 := nand_grown ne g1.1 (by have := g1.2.2.1; omega) (hz.mono g1.2.1) g1.2.2.2.1
        rw [nand_val ne g1.1 (by have := g1.2.2.1; omega) (hz.mono g1.2.1) g1.2.2.2.1 hv, inv_val ne hW (by omega) hh (hv.down g2)]
        simp only [hv_, reduceIte, Nat.reduceEqDiff]
        cases v z.toNatClampNeg <;> simp
    · rw [if_neg b] at hv ⊢
      have e : lo = 2 := by omega
      subst e
      have hl := hl b
      by_cases c : hi = 2
      · rw [if_pos c] at hv ⊢
        subst c
        have hh := hh rfl
        have g1 := nand_grown ne hW (by omega) hz hh
        have g2 := inv_grown ne g1.1 (by have := g1.2.2.1; omega) (hz.mono g1.2.1)
        have g3 := nand_grown ne g2.1 (by have := g1.2.2.1; have := g2.2.2.1; omega) g2.2.2.2.1 (hl.mono (by have := g1.2.1; have := g2.2.1; omega))
        have g4 := nand_grown ne g3.1 (by have := g1.2.2.1; have := g2.2.2.1; have := g3.2.2.1; omega) (g1.2.2.2.1.mono (by have := g2.2.1; have := g3.2.1; omega)) g3.2.2.2.1
        have v3 := hv.down g4
        have v2 := v3.down g3
        have v1 := v2.down g2
        rw [nand_val ne g3.1 (by have := g1.2.2.1; have := g2.2.2.1; have := g3.2.2.1; omega) (g1.2.2.2.1.mono (by have := g2.2.1; have := g3.2.1; omega)) g3.2.2.2.1 hv,
          nand_val ne g2.1 (by have := g1.2.2.1; have := g2.2.2.1; omega) g2.2.2.2.1 (hl.mono (by have := g1.2.1; have := g2.2.1; omega)) v3,
          inv_val ne g1.1 (by have := g1.2.2.1; omega) (hz.mono g1.2.1) v2, nand_val ne hW (by omega) hz hh v1]
        simp only [hv_, reduceIte, Nat.reduceEqDiff]
        cases v z.toNatClampNeg <;> simp
      · rw [if_neg c] at hv ⊢
        have g1 := inv_grown ne hW (by omega) hz
        by_cases f : hi = 0
        · rw [if_pos f] at hv ⊢
          subst f
          have g2 := nand_grown ne g1.1 (by have := g1.2.2.1; omega) g1.2.2.2.1 (hl.mono g1.2.1)
          have g3 := inv_grown ne g2.1 (by have := g1.2.2.1; have := g2.2.2.1; omega) g2.2.2.2.1
          have v2 := hv.down g3
          have v1 := v2.down g2
          rw [inv_val ne g2.1 (by have := g1.2.2.1; have := g2.2.2.1; omega) g2.2.2.2.1 hv, nand_val ne g1.1 (by have := g1.2.2.1; omega) g1.2.2.2.1 (hl.mono g1.2.1) v2, inv_val ne hW (by omega) hz v1]
          simp only [hv_, reduceIte, Nat.reduceEqDiff]
          cases v z.toNatClampNeg <;> simp
        · rw [if_neg f] at hv ⊢
          have e : hi = 1 := by omega
          subst e
          have g2 := inv_grown ne g1.1 (by have := g1.2.2.1; omega) (hl.mono g1.2.1)
          have g3 := nand_grown ne g2.1 (by have := g1.2.2.1; have := g2.2.2.1; omega) (g1.2.2.2.1.mono g2.2.1) g2.2.2.2.1
          have v2 := hv.down g3
          have v1 := v2.down g2
          rw [nand_val ne g2.1 (by have := g1.2.2.1; have := g2.2.2.1; omega) (g1.2.2.2.1.mono g2.2.1) g2.2.2.2.1 hv, inv_val ne g1.1 (by have := g1.2.2.1; omega) (hl.mono g1.2.1) v2, inv_val ne hW (by omega) hz v1]
          simp only [hv_, reduceIte, Nat.reduceEqDiff]
          cases v z.toNatClampNeg <;> simp
