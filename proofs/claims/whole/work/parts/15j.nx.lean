/-! The two parts of a NAND differ; kinds stay the four. Own work. -/
def NX (nd : Int32) (G : Gr) : Prop := ∀ j, j < G.1 → G.2.1 j = nd → ¬ G.2.2.1 j = G.2.2.2 j
theorem mk_nx {nd : Int32} {G : Gr} {k x y : Int32} (h : NX nd G) (hk : k = nd → ¬ x = y) : NX nd (mk G k x y).2 := by
  rcases mk_cases G k x y with ⟨j, _, e⟩ | e
  · rw [e]; exact h
  · rw [e]
    intro j hj hkj
    have hj : j < G.1 + 1 := hj
    by_cases e2 : j = G.1
    · subst e2
      simp only [addN, upd, reduceIte] at hkj ⊢
      exact hk hkj
    · simp only [addN, upd, if_neg e2] at hkj ⊢
      exact h j (by omega) hkj
theorem inv_nx {iv nd : Int32} (hne : ¬ iv = nd) {G : Gr} {x : Int32} (h : NX nd G) : NX nd (invN iv G x).2 := by
  unfold invN
  split
  · exact h
  · exact mk_nx h (fun q => absurd q hne)
theorem nand_nx {iv nd : Int32} (hne : ¬ iv = nd) {G : Gr} {x y : Int32} (h : NX nd G) : NX nd (nandN iv nd G x y).2 := by
  unfold nandN
  by_cases e : x = y
  · rw [if_pos e]; exact inv_nx hne h
  · rw [if_neg e]
    split
    · exact mk_nx h (fun _ => e)
    · exact mk_nx h (fun _ q => e q.symm)
theorem join_nx {iv nd : Int32} (hne : ¬ iv = nd) {G : Gr} {z l g : Int32} {lo hi : Nat} (h : NX nd G) : NX nd (joinN iv nd G z lo l hi g).2 := by
  unfold joinN
  split
  · split
    · exact h
    · exact inv_nx hne h
  · split
    · split
      · exact inv_nx hne (nand_nx hne h)
      · exact nand_nx hne (inv_nx hne h)
    · split
      · exact nand_nx hne (nand_nx hne (inv_nx hne (nand_nx hne h)))
      · split
        · exact inv_nx hne (nand_nx hne (inv_nx hne h))
        · exact nand_nx hne (inv_nx hne (inv_nx hne h))
theorem tab1_nx {iv nd : Int32} (hne : ¬ iv = nd) {G : Gr} {z0 : Int32} {t : Nat} (h : NX nd G) : NX nd (tab1 iv nd G z0 t).2 := join_nx hne h
theorem tab2_nx {iv nd : Int32} (hne : ¬ iv = nd) {G : Gr} {z0 z1 : Int32} {t : Nat} (h : NX nd G) : NX nd (tab2 iv nd G z0 z1 t).2 := by
  have hL : NX nd (tb2L iv nd G z0 t).2 := by unfold tb2L; split <;> first | exact tab1_nx hne h | exact h
  have hH : NX nd (tb2H iv nd G z0 t).2 := by unfold tb2H; split <;> first | exact tab1_nx hne hL | exact hL
  unfold tab2
  split
  · exact tab1_nx hne h
  · exact join_nx hne hH
theorem tab3_nx {iv nd : Int32} (hne : ¬ iv = nd) {G : Gr} {z0 z1 z2 : Int32} {t : Nat} (h : NX nd G) : NX nd (tab3 iv nd G z0 z1 z2 t).2 := by
  have hL : NX nd (tb3L iv nd G z0 z1 t).2 := by unfold tb3L; split <;> first | exact tab2_nx hne h | exact h
  have hH : NX nd (tb3H iv nd G z0 z1 t).2 := by unfold tb3H; split <;> first | exact tab2_nx hne hL | exact hL
  unfold tab3
  split
  · exact tab2_nx hne h
  · exact join_nx hne hH
