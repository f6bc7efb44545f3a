/-! The node of a table. Own work. -/
theorem join_grown {iv nd : Int32} (ne : ¬ iv = nd) {G : Gr} {z l h : Int32} {lo hi : Nat} (hW : WFG iv nd G) (hn : G.1 + 4 ≤ 48) (hz : isN G.1 z) (hl : ¬ lo < 2 → isN G.1 l) (hh : hi = 2 → isN G.1 h) (hhi : ¬ hi < 2 → hi = 2) : grown iv nd 4 G (joinN iv nd G z lo l hi h) := by
  unfold joinN
  by_cases a : lo < 2 ∧ hi < 2
  · rw [if_pos a]
    by_cases b : lo = 0
    · rw [if_pos b]; exact (grown.same hW hz).weaken (by omega)
    · rw [if_neg b]; exact (inv_grown ne hW (by omega) hz).weaken (by omega)
  · rw [if_neg a]
    by_cases b : lo < 2
    · rw [if_pos b]
      have hh2 := hh (hhi (fun q => a ⟨b, q⟩))
      by_cases c : lo = 0
      · rw [if_pos c]
        have n1 := nand_grown ne hW (by omega) hz hh2
        have n2 := inv_grown ne n1.1 (by have := n1.2.2.1; omega) n1.2.2.2.1
        exact (n1.trans n2).weaken (by omega)
      · rw [if_neg c]
        have n1 := inv_grown ne hW (by omega) hh2
        have n2 := nand_grown ne n1.1 (by have := n1.2.2.1; omega) (hz.mono n1.2.1) n1.2.2.2.1
        exact (n1.trans n2).weaken (by omega)
    · rw [if_neg b]
      have hl2 := hl b
      by_cases c : hi = 2
      · rw [if_pos c]
        have n1 := nand_grown ne hW (by omega) hz (hh c)
        have n2 := inv_grown ne n1.1 (by have := n1.2.2.1; omega) (hz.mono n1.2.1)
        have n3 := nand_grown ne n2.1 (by have := n2.2.2.1; have := n1.2.2.1; omega) n2.2.2.2.1 ((hl2.mono n1.2.1).mono n2.2.1)
        have n4 := nand_grown ne n3.1 (by have := n3.2.2.1; have := n2.2.2.1; have := n1.2.2.1; omega) ((n1.2.2.2.1.mono n2.2.1).mono n3.2.1) n3.2.2.2.1
        exact ((n1.trans n2).trans n3).trans n4
      · rw [if_neg c]
        have n1 := inv_grown ne hW (by omega) hz
        by_cases e : hi = 0
        · rw [if_pos e]
          have n2 := nand_grown ne n1.1 (by have := n1.2.2.1; omega) n1.2.2.2.1 (hl2.mono n1.2.1)
          have n3 := inv_grown ne n2.1 (by have := n2.2.2.1; have := n1.2.2.1; omega) n2.2.2.2.1
          exact ((n1.trans n2).trans n3).weaken (by omega)
        · rw [if_neg e]
          have n2 := inv_grown ne n1.1 (by have := n1.2.2.1; omega) (hl2.mono n1.2.1)
          have n3 := nand_grown ne n2.1 (by have := n2.2.2.1; have := n1.2.2.1; omega) (n1.2.2.2.1.mono n2.2.1) n2.2.2.2.1
          exact ((n1.trans n2).trans n3).weaken (by omega)
def flg (x ones : Nat) : Nat := if x = 0 then 0 else if x = ones then 1 else 2
theorem flg_lt (x ones : Nat) : ¬ flg x ones < 2 → flg x ones = 2 := by
  unfold flg
  by_cases a : x = 0
  · rw [if_pos a]; omega
  · rw [if_neg a]
    by_cases b : x = ones
    · rw [if_pos b]; omega
    · rw [if_neg b]; exact fun _ => rfl
def tab1 (iv nd : Int32) (G : Gr) (z0 : Int32) (t : Nat) : Int32 × Gr := joinN iv nd G z0 (t % 2) 0 (t / 2) 0
def tb2L (iv nd : Int32) (G : Gr) (z0 : Int32) (t : Nat) : Int32 × Gr := if flg (t % 4) 3 = 2 then tab1 iv nd G z0 (t % 4) else (0, G)
def tb2H (iv nd : Int32) (G : Gr) (z0 : Int32) (t : Nat) : Int32 × Gr := if flg (t / 4) 3 = 2 then tab1 iv nd (tb2L iv nd G z0 t).2 z0 (t / 4) else (0, (tb2L iv nd G z0 t).2)
def tab2 (iv nd : Int32) (G : Gr) (z0 z1 : Int32) (t : Nat) : Int32 × Gr := if t % 4 = t / 4 then tab1 iv nd G z0 (t % 4) else joinN iv nd (tb2H iv nd G z0 t).2 z1 (flg (t % 4) 3) (tb2L iv nd G z0 t).1 (flg (t / 4) 3) (tb2H iv nd G z0 t).1
def tb3L (iv nd : Int32) (G : Gr) (z0 z1 : Int32) (t : Nat) : Int32 × Gr := if flg (t % 16) 15 = 2 then tab2 iv nd G z0 z1 (t % 16) else (0, G)
def tb3H (iv nd : Int32) (G : Gr) (z0 z1 : Int32) (t : Nat) : Int32 × Gr := if flg (t / 16) 15 = 2 then tab2 iv nd (tb3L iv nd G z0 z1 t).2 z0 z1 (t / 16) else (0, (tb3L iv nd G z0 z1 t).2)
def tab3 (iv nd : Int32) (G : Gr) (z0 z1 z2 : Int32) (t : Nat) : Int32 × Gr := if t % 16 = t / 16 then tab2 iv nd G z0 z1 (t % 16) else joinN iv nd (tb3H iv nd G z0 z1 t).2 z2 (flg (t % 16) 15) (tb3L iv nd G z0 z1 t).1 (flg (t / 16) 15) (tb3H iv nd G z0 z1 t).1
theorem tab1_grown {iv nd : Int32} (ne : ¬ iv = nd) {G : Gr} {z0 : Int32} {t : Nat} (hW : WFG iv nd G) (hn : G.1 < 48) (hz : isN G.1 z0) (ht : t < 4) : grown iv nd 1 G (tab1 iv nd G z0 t) := by
  unfold tab1 joinN
  rw [if_pos ⟨by omega, by omega⟩]
  by_cases b : t % 2 = 0
  · rw [if_pos b]; exact (grown.same hW hz).weaken (by omega)
  · rw [if_neg b]; exact inv_grown ne hW hn hz
/-- a half that may have a node: sound, grown, and where it has one the answer is it -/
def grown0 (iv nd : Int32) (c : Nat) (G : Gr) (has : Prop) (o : Int32 × Gr) : Prop := WFG iv nd o.2 ∧ G.1 ≤ o.2.1 ∧ o.2.1 ≤ G.1 + c ∧ (has → isN o.2.1 o.1) ∧ ∀ j, j < G.1 → o.2.2.1 j = G.2.1 j ∧ o.2.2.2.1 j = G.2.2.1 j ∧ o.2.2.2.2 j = G.2.2.2 j
theorem grown.to0 {iv nd : Int32} {c : Nat} {G : Gr} {o : Int32 × Gr} {has : Prop} (h : grown iv nd c G o) : grown0 iv nd c G has o := ⟨h.1, h.2.1, h.2.2.1, fun _ => h.2.2.2.1, h.2.2.2.2⟩
theorem grown0.none {iv nd : Int32} {c : Nat} {G : Gr} {x : Int32} {has : Prop} (hW : WFG iv nd G) (hh : ¬ has) : grown0 iv nd c G has (x, G) := ⟨hW, Nat.le_refl _, Nat.le_add_right _ _, fun q => absurd q hh, fun _ _ => ⟨rfl, rfl, rfl⟩⟩
theorem grown0.trans {iv nd : Int32} {c d : Nat} {G : Gr} {o o2 : Int32 × Gr} {has : Prop} (h : grown0 iv nd c G has o) (h2 : grown iv nd d o.2 o2) : grown iv nd (c + d) G o2 := by
  obtain ⟨a1, a2, a3, a4, a5⟩ := h
  obtain ⟨b1, b2, b3, b4, b5⟩ := h2
  refine ⟨b1, by omega, by omega, b4, fun j hj => ?_⟩
  have e1 := a5 j hj
  have e2 := b5 j (by omega)
  exact ⟨e2.1.trans e1.1, e2.2.1.trans e1.2.1, e2.2.2.trans e1.2.2⟩
theorem grown0.trans0 {iv nd : Int32} {c d : Nat} {G : Gr} {o o2 : Int32 × Gr} {has has2 : Prop} (h : grown0 iv nd c G has o) (h2 : grown0 iv nd d o.2 has2 o2) : grown0 iv nd (c + d) G has2 o2 := by
  obtain ⟨a1, a2, a3, a4, a5⟩ := h
  obtain ⟨b1, b2, b3, b4, b5⟩ := h2
  refine ⟨b1, by omega, by omega, b4, fun j hj => ?_⟩
  have e1 := a5 j hj
  have e2 := b5 j (by omega)
  exact ⟨e2.1.trans e1.1, e2.2.1.trans e1.2.1, e2.2.2.trans e1.2.2⟩
theorem tb2L_grown {iv nd : Int32} (ne : ¬ iv = nd) {G : Gr} {z0 : Int32} {t : Nat} (hW : WFG iv nd G) (hn : G.1 < 48) (hz : isN G.1 z0) : grown0 iv nd 1 G (flg (t % 4) 3 = 2) (tb2L iv nd G z0 t) := by
  unfold tb2L
  by_cases a : flg (t % 4) 3 = 2
  · rw [if_pos a]; exact (tab1_grown ne hW hn hz (by omega)).to0
  · rw [if_neg a]; exact grown0.none hW a
theorem tb2H_grown {iv nd : Int32} (ne : ¬ iv = nd) {G : Gr} {z0 : Int32} {t : Nat} (hW : WFG iv nd G) (hn : G.1 + 1 < 48) (hz : isN G.1 z0) (ht : t < 16) : grown0 iv nd 1 (tb2L iv nd G z0 t).2 (flg (t / 4) 3 = 2) (tb2H iv nd G z0 t) := by
  have h1 := tb2L_grown (t := t) ne hW (by omega) hz
  unfold tb2H
  by_cases a : flg (t / 4) 3 = 2
  · rw [if_pos a]; exact (tab1_grown ne h1.1 (by have := h1.2.2.1; omega) (hz.mono h1.2.1) (by omega)).to0
  · rw [if_neg a]; exact grown0.none h1.1 a
theorem tab2_grown {iv nd : Int32} (ne : ¬ iv = nd) {G : Gr} {z0 z1 : Int32} {t : Nat} (hW : WFG iv nd G) (hn : G.1 + 6 ≤ 48) (hz : isN G.1 z0) (hz1 : isN G.1 z1) (ht : t < 16) : grown iv nd 6 G (tab2 iv nd G z0 z1 t) := by
  unfold tab2
  by_cases a : t % 4 = t / 4
  · rw [if_pos a]; exact (tab1_grown ne hW (by omega) hz (by omega)).weaken (by omega)
  · rw [if_neg a]
    have h1 := tb2L_grown (t := t) ne hW (by omega) hz
    have h2 := tb2H_grown (t := t) ne hW (by omega) hz ht
    have h3 := h1.trans0 h2
    exact h3.trans (join_grown ne h2.1 (by have := h3.2.2.1; omega) (hz1.mono h3.2.1) (fun q => (h1.2.2.2.1 (flg_lt _ _ q)).mono h2.2.1) (fun q => h2.2.2.2.1 q) (flg_lt _ _))
theorem tb3L_grown {iv nd : Int32} (ne : ¬ iv = nd) {G : Gr} {z0 z1 : Int32} {t : Nat} (hW : WFG iv nd G) (hn : G.1 + 6 ≤ 48) (hz : isN G.1 z0) (hz1 : isN G.1 z1) : grown0 iv nd 6 G (flg (t % 16) 15 = 2) (tb3L iv nd G z0 z1 t) := by
  unfold tb3L
  by_cases a : flg (t % 16) 15 = 2
  · rw [if_pos a]; exact (tab2_grown ne hW hn hz hz1 (by omega)).to0
  · rw [if_neg a]; exact grown0.none hW a
theorem tb3H_grown {iv nd : Int32} (ne : ¬ iv = nd) {G : Gr} {z0 z1 : Int32} {t : Nat} (hW : WFG iv nd G) (hn : G.1 + 12 ≤ 48) (hz : isN G.1 z0) (hz1 : isN G.1 z1) (ht : t < 256) : grown0 iv nd 6 (tb3L iv nd G z0 z1 t).2 (flg (t / 16) 15 = 2) (tb3H iv nd G z0 z1 t) := by
  have h1 := tb3L_grown (t := t) ne hW (by omega) hz hz1
  unfold tb3H
  by_cases a : flg (t / 16) 15 = 2
  · rw [if_pos a]; exact (tab2_grown ne h1.1 (by have := h1.2.2.1; omega) (hz.mono h1.2.1) (hz1.mono h1.2.1) (by omega)).to0
  · rw [if_neg a]; exact grown0.none h1.1 a
theorem tab3_grown {iv nd : Int32} (ne : ¬ iv = nd) {G : Gr} {z0 z1 z2 : Int32} {t : Nat} (hW : WFG iv nd G) (hn : G.1 + 16 ≤ 48) (hz : isN G.1 z0) (hz1 : isN G.1 z1) (hz2 : isN G.1 z2) (ht : t < 256) : grown iv nd 16 G (tab3 iv nd G z0 z1 z2 t) := by
  unfold tab3
  by_cases a : t % 16 = t / 16
  · rw [if_pos a]; exact (tab2_grown ne hW (by omega) hz hz1 (by omega)).weaken (by omega)
  · rw [if_neg a]
    have h1 := tb3L_grown (t := t) ne hW (by omega) hz hz1
    have h2 := tb3H_grown (t := t) ne hW (by omega) hz hz1 ht
    have h3 := h1.trans0 h2
    exact h3.trans (join_grown ne h2.1 (by have := h3.2.2.1; omega) (hz2.mono h3.2.1) (fun q => (h1.2.2.2.1 (flg_lt _ _ q)).mono h2.2.1) (fun q => h2.2.2.2.1 q) (flg_lt _ _))
