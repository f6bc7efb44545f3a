/-! Both sides' node pictures, told apart by the numbers of two kinds alone. Own work. -/
def km (k : Int32) : Int32 := if k = 2 then 3 else if k = 3 then 2 else k
def KR (G H : Gr) : Prop := G.1 = H.1 ∧ ∀ j, j < G.1 → (G.2.1 j = 0 ∨ G.2.1 j = 1 ∨ G.2.1 j = 2 ∨ G.2.1 j = 3) ∧ H.2.1 j = km (G.2.1 j) ∧ H.2.2.1 j = G.2.2.1 j ∧ H.2.2.2 j = G.2.2.2 j
def RR (o p : Int32 × Gr) : Prop := o.1 = p.1 ∧ KR o.2 p.2
theorem fd_congr {p q : Nat → Bool} : ∀ {f i : Nat}, (∀ j, i ≤ j → j < i + f → p j = q j) → fd p f i = fd q f i
  | 0, i, _ => rfl
  | f + 1, i, h => by
    have h0 := h i (Nat.le_refl _) (by omega)
    by_cases hp : p i = true
    · rw [fd_t hp, fd_t (by rw [← h0]; exact hp)]
    · rw [fd_f hp, fd_f (by rw [← h0]; exact hp)]
      exact fd_congr fun j h1 h2 => h j (by omega) (by omega)
theorem km_eq {a k : Int32} (ha : a = 0 ∨ a = 1 ∨ a = 2 ∨ a = 3) (hk : k = 2 ∨ k = 3) : (km a = km k) ↔ (a = k) := by
  rcases ha with rfl | rfl | rfl | rfl <;> rcases hk with rfl | rfl <;> decide
theorem mk_rel {G H : Gr} {k : Int32} (x y : Int32) (h : KR G H) (hk : k = 2 ∨ k = 3) : (mk G k x y).1 = (mk H (km k) x y).1 ∧ KR (mk G k x y).2 (mk H (km k) x y).2 := by
  obtain ⟨hn, hj⟩ := h
  have hfd : fd (hit H (km k) x y) H.1 0 = fd (hit G k x y) G.1 0 := by
    rw [← hn]
    refine fd_congr fun j _ h2 => ?_
    obtain ⟨h3, h4, h5, h6⟩ := hj j (by omega)
    unfold hit
    rw [h4, h5, h6]
    apply decide_eq_decide.mpr
    rw [km_eq h3 hk]
  unfold mk
  rw [hfd]
  unfold outN
  rw [← hn]
  by_cases hlt : fd (hit G k x y) G.1 0 < G.1
  · rw [if_pos hlt, if_pos hlt]
    exact ⟨rfl, hn, hj⟩
  · rw [if_neg hlt, if_neg hlt]
    refine ⟨rfl, by show G.1 + 1 = H.1 + 1; rw [hn], fun j h2 => ?_⟩
    have h2 : j < G.1 + 1 := h2
    unfold addN
    show ((upd G.2.1 G.1 k) j = 0 ∨ (upd G.2.1 G.1 k) j = 1 ∨ (upd G.2.1 G.1 k) j = 2 ∨ (upd G.2.1 G.1 k) j = 3) ∧ (upd H.2.1 H.1 (km k)) j = km ((upd G.2.1 G.1 k) j) ∧ (upd H.2.2.1 H.1 x) j = (upd G.2.2.1 G.1 x) j ∧ (upd H.2.2.2 H.1 y) j = (upd G.2.2.2 G.1 y) j
    rw [← hn]
    unfold upd
    by_cases e : j = G.1
    · simp only [if_pos e]
      exact ⟨by rcases hk with rfl | rfl <;> decide, trivial, trivial, trivial⟩
    · simp only [if_neg e]
      exact hj j (by omega)
theorem inv_rel {G H : Gr} {x : Int32} (h : KR G H) (hx : isN G.1 x) (hn : G.1 ≤ 48) : RR (invN 2 G x) (invN 3 H x) := by
  have hc := (hx.clamp hn).1
  obtain ⟨h3, h4, h5, h6⟩ := h.2 _ hc
  have h7 : (H.2.1 x.toNatClampNeg = 3) ↔ (G.2.1 x.toNatClampNeg = 2) := by
    rw [h4]
    rcases h3 with q | q | q | q <;> rw [q] <;> decide
  unfold invN
  by_cases hk : G.2.1 x.toNatClampNeg = 2
  · rw [if_pos hk, if_pos (h7.mpr hk)]
    exact ⟨h5.symm, h⟩
  · rw [if_neg hk, if_neg (fun q => hk (h7.mp q))]
    have hm := mk_rel x (-1) h (k := 2) (Or.inl rfl)
    exact ⟨congrArg nI hm.1, hm.2⟩
theorem nand_rel {G H : Gr} {x y : Int32} (h : KR G H) (hx : isN G.1 x) (hn : G.1 ≤ 48) : RR (nandN 2 3 G x y) (nandN 3 2 H x y) := by
  unfold nandN
  by_cases a : x = y
  · rw [if_pos a, if_pos a]; exact inv_rel h hx hn
  · rw [if_neg a, if_neg a]
    by_cases b : x < y
    · rw [if_pos b, if_pos b]
      have hm := mk_rel x y h (k := 3) (Or.inr rfl)
      exact ⟨congrArg nI hm.1, hm.2⟩
    · rw [if_neg b, if_neg b]
      have hm := mk_rel y x h (k := 3) (Or.inr rfl)
      exact ⟨congrArg nI hm.1, hm.2⟩
/-- the same step over pictures that are alike, on answers that are alike -/
theorem inv_rel2 {o p : Int32 × Gr} (h : RR o p) (hx : isN o.2.1 o.1) (hn : o.2.1 ≤ 48) : RR (invN 2 o.2 o.1) (invN 3 p.2 p.1) := by
  rw [← h.1]
  exact inv_rel h.2 hx hn
