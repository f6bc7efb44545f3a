/-! Node pictures that are sound: parts come before wholes; and how large they grow. Own work. -/
/-- an index of a node -/
def isN (n : Nat) (x : Int32) : Prop := ∃ a : Nat, a < n ∧ x = nI a
/-- iv: the number of the kind INV, nd: of NAND; the other kinds have no parts -/
def WFG (iv nd : Int32) (G : Gr) : Prop := G.1 ≤ 48 ∧ ∀ j, j < G.1 → (G.2.1 j = iv → isN j (G.2.2.1 j)) ∧ (G.2.1 j = nd → isN j (G.2.2.1 j) ∧ isN j (G.2.2.2 j))
theorem isN.mono {n m : Nat} {x : Int32} (h : isN n x) (hm : n ≤ m) : isN m x := by
  obtain ⟨a, ha, e⟩ := h
  exact ⟨a, by omega, e⟩
theorem isN.clamp {n : Nat} {x : Int32} (h : isN n x) (hn : n ≤ 48) : x.toNatClampNeg < n ∧ vp_in x 48 := by
  obtain ⟨a, ha, rfl⟩ := h
  exact ⟨by rw [nI_clamp (by omega)]; exact ha, nI_in (by omega) (by decide)⟩
theorem fd_le {p : Nat → Bool} : ∀ {f i : Nat}, fd p f i ≤ i + f
  | 0, i => Nat.le_refl _
  | f + 1, i => by
    by_cases h : p i = true
    · rw [fd_t h]; omega
    · rw [fd_f h]
      have := fd_le (p := p) (f := f) (i := i + 1)
      omega
theorem mk_cases (G : Gr) (k x y : Int32) : (∃ j, j < G.1 ∧ mk G k x y = (j, G)) ∨ mk G k x y = (G.1, addN G k x y) := by
  unfold mk outN
  by_cases h : fd (hit G k x y) G.1 0 < G.1
  · exact Or.inl ⟨_, h, if_pos h⟩
  · exact Or.inr (if_neg h)
/-- what is made by a step: the picture stays sound, grows by one at most, keeps what was, and the answer is a node -/
def grown (iv nd : Int32) (c : Nat) (G : Gr) (o : Int32 × Gr) : Prop := WFG iv nd o.2 ∧ G.1 ≤ o.2.1 ∧ o.2.1 ≤ G.1 + c ∧ isN o.2.1 o.1 ∧ ∀ j, j < G.1 → o.2.2.1 j = G.2.1 j ∧ o.2.2.2.1 j = G.2.2.1 j ∧ o.2.2.2.2 j = G.2.2.2 j
theorem mk_grown {iv nd : Int32} {G : Gr} {k x y : Int32} (hW : WFG iv nd G) (hn : G.1 < 48) (h1 : k = iv → isN G.1 x) (h2 : k = nd → isN G.1 x ∧ isN G.1 y) : grown iv nd 1 G (nI (mk G k x y).1, (mk G k x y).2) := by
  rcases mk_cases G k x y with ⟨j, hj, e⟩ | e
  · rw [e]
    exact ⟨hW, Nat.le_refl _, by show G.1 ≤ G.1 + 1; omega, ⟨j, hj, rfl⟩, fun j _ => ⟨rfl, rfl, rfl⟩⟩
  · rw [e]
    have old : ∀ j, j < G.1 → (addN G k x y).2.1 j = G.2.1 j ∧ (addN G k x y).2.2.1 j = G.2.2.1 j ∧ (addN G k x y).2.2.2 j = G.2.2.2 j := by
      intro j hj
      have hne : ¬ j = G.1 := by omega
      simp only [addN, upd, if_neg hne, and_self]
    have new : (addN G k x y).2.1 G.1 = k ∧ (addN G k x y).2.2.1 G.1 = x ∧ (addN G k x y).2.2.2 G.1 = y := by
      simp only [addN, upd, reduceIte, and_self]
    refine ⟨⟨by show G.1 + 1 ≤ 48; omega, fun j hj => ?_⟩, by show G.1 ≤ G.1 + 1; omega, Nat.le_refl _, ⟨G.1, Nat.lt_succ_self _, rfl⟩, old⟩
    by_cases hj2 : j = G.1
    · subst hj2
      rw [new.1, new.2.1, new.2.2]
      exact ⟨h1, h2⟩
    · have hj3 : j < G.1 := by have : j < G.1 + 1 := hj; omega
      rw [(old j hj3).1, (old j hj3).2.1, (old j hj3).2.2]
      exact hW.2 j hj3
theorem grown.weaken {iv nd : Int32} {c c2 : Nat} {G : Gr} {o : Int32 × Gr} (h : grown iv nd c G o) (hc : c ≤ c2) : grown iv nd c2 G o := ⟨h.1, h.2.1, by have := h.2.2.1; omega, h.2.2.2⟩
theorem grown.same {iv nd : Int32} {G : Gr} {x : Int32} (hW : WFG iv nd G) (hx : isN G.1 x) : grown iv nd 0 G (x, G) := ⟨hW, Nat.le_refl _, Nat.le_refl _, hx, fun j _ => ⟨rfl, rfl, rfl⟩⟩
theorem grown.trans {iv nd : Int32} {c d : Nat} {G : Gr} {o o2 : Int32 × Gr} (h : grown iv nd c G o) (h2 : grown iv nd d o.2 o2) : grown iv nd (c + d) G o2 := by
  obtain ⟨a1, a2, a3, a4, a5⟩ := h
  obtain ⟨b1, b2, b3, b4, b5⟩ := h2
  refine ⟨b1, by omega, by omega, b4, fun j hj => ?_⟩
  have e1 := a5 j hj
  have e2 := b5 j (by omega)
  exact ⟨e2.1.trans e1.1, e2.2.1.trans e1.2.1, e2.2.2.trans e1.2.2⟩
theorem inv_grown {iv nd : Int32} (hne : ¬ iv = nd) {G : Gr} {x : Int32} (hW : WFG iv nd G) (hn : G.1 < 48) (hx : isN G.1 x) : grown iv nd 1 G (invN iv G x) := by
  unfold invN
  by_cases hk : G.2.1 x.toNatClampNeg = iv
  · rw [if_pos hk]
    have hc := (hx.clamp hW.1).1
    exact (grown.same hW (((hW.2 _ hc).1 hk).mono (by omega))).weaken (by omega)
  · rw [if_neg hk]
    exact mk_grown hW hn (fun _ => hx) (fun q => absurd q hne)
theorem nand_grown {iv nd : Int32} (hne : ¬ iv = nd) {G : Gr} {x y : Int32} (hW : WFG iv nd G) (hn : G.1 < 48) (hx : isN G.1 x) (hy : isN G.1 y) : grown iv nd 1 G (nandN iv nd G x y) := by
  unfold nandN
  by_cases a : x = y
  · rw [if_pos a]; exact inv_grown hne hW hn hx
  · rw [if_neg a]
    by_cases b : x < y
    · rw [if_pos b]; exact mk_grown hW hn (fun q => absurd q.symm hne) (fun _ => ⟨hx, hy⟩)
    · rw [if_neg b]; exact mk_grown hW hn (fun q => absurd q.symm hne) (fun _ => ⟨hy, hx⟩)
/-- the node over both halves: lo, hi: 0 or 1 (constant so) or 2 (the node l or h) -/
def joinN (iv nd : Int32) (G : Gr) (z : Int32) (lo : Nat) (l : Int32) (hi : Nat) (h : Int32) : Int32 × Gr :=
  if lo < 2 ∧ hi < 2 then (if lo = 0 then (z, G) else invN iv G z)
  else if lo < 2 then (if lo = 0 then invN iv (nandN iv nd G z h).2 (nandN iv nd G z h).1 else nandN iv nd (invN iv G h).2 z (invN iv G h).1)
  else if hi = 2 then
    nandN iv nd (nandN iv nd (invN iv (nandN iv nd G z h).2 z).2 (invN iv (nandN iv nd G z h).2 z).1 l).2 (nandN iv nd G z h).1 (nandN iv nd (invN iv (nandN iv nd G z h).2 z).2 (invN iv (nandN iv nd G z h).2 z).1 l).1
  else (if hi = 0 then invN iv (nandN iv nd (invN iv G z).2 (invN iv G z).1 l).2 (nandN iv nd (invN iv G z).2 (invN iv G z).1 l).1 else nandN iv nd (invN iv (invN iv G z).2 l).2 (invN iv G z).1 (invN iv (invN iv G z).2 l).1)
