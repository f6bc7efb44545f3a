/-! Every row of leaves has a valuation. Own work. -/
def evF (iv nd : Int32) (G : Gr) (leaf : Nat → Bool) : Nat → Nat → Bool
  | 0, _ => false
  | f + 1, j => if G.2.1 j = iv then !evF iv nd G leaf f (G.2.2.1 j).toNatClampNeg
    else if G.2.1 j = nd then !(evF iv nd G leaf f (G.2.2.1 j).toNatClampNeg && evF iv nd G leaf f (G.2.2.2 j).toNatClampNeg) else leaf j
theorem evF_more {iv nd : Int32} {G : Gr} {leaf : Nat → Bool} (hW : WFG iv nd G) : ∀ (f g j : Nat), j < f → j < g → j < G.1 → evF iv nd G leaf f j = evF iv nd G leaf g j := by
  intro f
  induction f with
  | zero => intro g j h; omega
  | succ f ih =>
    intro g j h1 h2 h3
    match g, h2 with
    | g + 1, h2 =>
      have ⟨p1, p2⟩ := hW.2 j h3
      simp only [evF]
      by_cases a : G.2.1 j = iv
      · have c := ((p1 a).clamp (by have := hW.1; omega)).1
        rw [if_pos a, if_pos a, ih g _ (by omega) (by omega) (by omega)]
      · rw [if_neg a, if_neg a]
        by_cases b : G.2.1 j = nd
        · have c := ((p2 b).1.clamp (by have := hW.1; omega)).1
          have d := ((p2 b).2.clamp (by have := hW.1; omega)).1
          rw [if_pos b, if_pos b, ih g _ (by omega) (by omega) (by omega), ih g (G.2.2.2 j).toNatClampNeg (by omega) (by omega) (by omega)]
        · rw [if_neg b, if_neg b]
theorem Vl_ex {iv nd : Int32} (ne : ¬ iv = nd) {G : Gr} (leaf : Nat → Bool) (hW : WFG iv nd G) : ∃ v, Vl iv nd G v ∧ ∀ j, j < G.1 → ¬ G.2.1 j = iv → ¬ G.2.1 j = nd → v j = leaf j := by
  refine ⟨fun j => evF iv nd G leaf (j + 1) j, fun j hj => ?_, fun j hj a b => ?_⟩
  · have ⟨p1, p2⟩ := hW.2 j hj
    refine ⟨fun a => ?_, fun b => ?_⟩
    · have c := ((p1 a).clamp (by have := hW.1; omega)).1
      simp only [evF]
      rw [if_pos a, evF_more hW j ((G.2.2.1 j).toNatClampNeg + 1) _ c (by omega) (by omega)]
      rfl
    · have c := ((p2 b).1.clamp (by have := hW.1; omega)).1
      have d := ((p2 b).2.clamp (by have := hW.1; omega)).1
      have a : ¬ G.2.1 j = iv := fun q => ne (q.symm.trans b)
      simp only [evF]
      rw [if_neg a, if_pos b, evF_more hW j ((G.2.2.1 j).toNatClampNeg + 1) _ c (by omega) (by omega), evF_more hW j ((G.2.2.2 j).toNatClampNeg + 1) _ d (by omega) (by omega)]
      rfl
  · simp only [evF]
    rw [if_neg a, if_neg b]
