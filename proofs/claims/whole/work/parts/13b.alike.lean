/-! Both sides' tables make the same nodes. Own work. -/
theorem join_rel {G H : Gr} {z l h : Int32} {lo hi : Nat} (hR : KR G H) (hW : WFG 2 3 G) (hn : G.1 + 4 ≤ 48) (hz : isN G.1 z) (hl : ¬ lo < 2 → isN G.1 l) (hh : hi = 2 → isN G.1 h) (hhi : ¬ hi < 2 → hi = 2) : RR (joinN 2 3 G z lo l hi h) (joinN 3 2 H z lo l hi h) := by
  have ne : ¬ (2 : Int32) = 3 := by decide
  unfold joinN
  by_cases a : lo < 2 ∧ hi < 2
  · rw [if_pos a, if_pos a]
    by_cases b : lo = 0
    · rw [if_pos b, if_pos b]; exact ⟨rfl, hR⟩
    · rw [if_neg b, if_neg b]; exact inv_rel hR hz (by omega)
  · rw [if_neg a, if_neg a]
    by_cases b : lo < 2
    · rw [if_pos b, if_pos b]
      have hh2 := hh (hhi (fun q => a ⟨b, q⟩))
      by_cases c : lo = 0
      · rw [if_pos c, if_pos c]
        have n1 := nand_grown ne hW (by omega) hz hh2
        exact inv_rel2 (nand_rel hR hz (by omega)) n1.2.2.2.1 (by have := n1.2.2.1; omega)
      · rw [if_neg c, if_neg c]
        have n1 := inv_grown ne hW (by omega) hh2
        have r1 := inv_rel hR hh2 (by omega)
        rw [← r1.1]
        exact nand_rel r1.2 (hz.mono n1.2.1) (by have := n1.2.2.1; omega)
    · rw [if_neg b, if_neg b]
      have hl2 := hl b
      by_cases c : hi = 2
      · rw [if_pos c, if_pos c]
        have n1 := nand_grown ne hW (by omega) hz (hh c)
        have r1 := nand_rel (y := h) hR hz (by omega)
        have n2 := inv_grown ne n1.1 (by have := n1.2.2.1; omega) (hz.mono n1.2.1)
        have r2 := inv_rel r1.2 (hz.mono n1.2.1) (by have := n1.2.2.1; omega)
        have n3 := nand_grown ne n2.1 (by have := n2.2.2.1; have := n1.2.2.1; omega) n2.2.2.2.1 ((hl2.mono n1.2.1).mono n2.2.1)
        have r3 := nand_rel (y := l) r2.2 n2.2.2.2.1 (by have := n2.2.2.1; have := n1.2.2.1; omega)
        rw [r2.1] at r3
        rw [r2.1] at n3
        rw [r2.1, ← r1.1, ← r3.1]
        exact nand_rel r3.2 ((n1.2.2.2.1.mono n2.2.1).mono n3.2.1) (by have := n3.2.2.1; have := n2.2.2.1; have := n1.2.2.1; omega)
      · rw [if_neg c, if_neg c]
        have n1 := inv_grown ne hW (by omega) hz
        have r1 := inv_rel hR hz (by omega)
        by_cases e : hi = 0
        · rw [if_pos e, if_pos e]
          have n2 := nand_grown ne n1.1 (by have := n1.2.2.1; omega) n1.2.2.2.1 (hl2.mono n1.2.1)
          have r2 := nand_rel (y := l) r1.2 n1.2.2.2.1 (by have := n1.2.2.1; omega)
          rw [← r1.1]
          exact inv_rel2 r2 n2.2.2.2.1 (by have := n2.2.2.1; have := n1.2.2.1; omega)
        · rw [if_neg e, if_neg e]
          have n2 := inv_grown ne n1.1 (by have := n1.2.2.1; omega) (hl2.mono n1.2.1)
          have r2 := inv_rel r1.2 (hl2.mono n1.2.1) (by have := n1.2.2.1; omega)
          rw [← r1.1, ← r2.1]
          exact nand_rel r2.2 (n1.2.2.2.1.mono n2.2.1) (by have := n2.2.2.1; have := n1.2.2.1; omega)
theorem tab1_rel {G H : Gr} {z0 : Int32} {t : Nat} (hR : KR G H) (hW : WFG 2 3 G) (hn : G.1 + 4 ≤ 48) (hz : isN G.1 z0) (ht : t < 4) : RR (tab1 2 3 G z0 t) (tab1 3 2 H z0 t) := join_rel hR hW hn hz (by omega) (by omega) (by omega)
theorem tab2_rel {G H : Gr} {z0 z1 : Int32} {t : Nat} (hR : KR G H) (hW : WFG 2 3 G) (hn : G.1 + 6 ≤ 48) (hz : isN G.1 z0) (hz1 : isN G.1 z1) (ht : t < 16) : RR (tab2 2 3 G z0 z1 t) (tab2 3 2 H z0 z1 t) := by
  have ne : ¬ (2 : Int32) = 3 := by decide
  have h1 := tb2L_grown (t := t) ne hW (by omega) hz
  have h2 := tb2H_grown (t := t) ne hW (by omega) hz ht
  have rL : RR (tb2L 2 3 G z0 t) (tb2L 3 2 H z0 t) := by
    unfold tb2L
    by_cases a : flg (t % 4) 3 = 2
    · rw [if_pos a, if_pos a]; exact tab1_rel hR hW (by omega) hz (by omega)
    · rw [if_neg a, if_neg a]; exact ⟨rfl, hR⟩
  have rH : RR (tb2H 2 3 G z0 t) (tb2H 3 2 H z0 t) := by
    unfold tb2H
    by_cases a : flg (t / 4) 3 = 2
    · rw [if_pos a, if_pos a]; exact tab1_rel rL.2 h1.1 (by have := h1.2.2.1; omega) (hz.mono h1.2.1) (by omega)
    · rw [if_neg a, if_neg a]; exact ⟨rfl, rL.2⟩
  unfold tab2
  by_cases a : t % 4 = t / 4
  · rw [if_pos a, if_pos a]; exact tab1_rel hR hW (by omega) hz (by omega)
  · rw [if_neg a, if_neg a, ← rL.1, ← rH.1]
    have h3 := h1.trans0 h2
    exact join_rel rH.2 h2.1 (by have := h3.2.2.1; omega) (hz1.mono h3.2.1) (fun q => (h1.2.2.2.1 (flg_lt _ _ q)).mono h2.2.1) (fun q => h2.2.2.2.1 q) (flg_lt _ _)
theorem tab3_rel {G H : Gr} {z0 z1 z2 : Int32} {t : Nat} (hR : KR G H) (hW : WFG 2 3 G) (hn : G.1 + 16 ≤ 48) (hz : isN G.1 z0) (hz1 : isN G.1 z1) (hz2 : isN G.1 z2) (ht : t < 256) : RR (tab3 2 3 G z0 z1 z2 t) (tab3 3 2 H z0 z1 z2 t) := by
  have ne : ¬ (2 : Int32) = 3 := by decide
  have h1 := tb3L_grown (t := t) ne hW (by omega) hz hz1
  have h2 := tb3H_grown (t := t) ne hW (by omega) hz hz1 ht
  have rL : RR (tb3L 2 3 G z0 z1 t) (tb3L 3 2 H z0 z1 t) := by
    unfold tb3L
    by_cases a : flg (t % 16) 15 = 2
    · rw [if_pos a, if_pos a]; exact tab2_rel hR hW (by omega) hz hz1 (by omega)
    · rw [if_neg a, if_neg a]; exact ⟨rfl, hR⟩
  have rH : RR (tb3H 2 3 G z0 z1 t) (tb3H 3 2 H z0 z1 t) := by
    unfold tb3H
    by_cases a : flg (t / 16) 15 = 2
    · rw [if_pos a, if_pos a]; exact tab2_rel rL.2 h1.1 (by have := h1.2.2.1; omega) (hz.mono h1.2.1) (hz1.mono h1.2.1) (by omega)
    · rw [if_neg a, if_neg a]; exact ⟨rfl, rL.2⟩
  unfold tab3
  by_cases a : t % 16 = t / 16
  · rw [if_pos a, if_pos a]; exact tab2_rel hR hW (by omega) hz hz1 (by omega)
  · rw [if_neg a, if_neg a, ← rL.1, ← rH.1]
    have h3 := h1.trans0 h2
    exact join_rel rH.2 h2.1 (by have := h3.2.2.1; omega) (hz2.mono h3.2.1) (fun q => (h1.2.2.2.1 (flg_lt _ _ q)).mono h2.2.1) (fun q => h2.2.2.2.1 q) (flg_lt _ _)
