/-! The nodes: a pure picture, and the class's contracts over it. Own work. -/
abbrev Gr : Type := Nat × (Nat → Int32) × (Nat → Int32) × (Nat → Int32)
def fd (p : Nat → Bool) : Nat → Nat → Nat
  | 0, i => i
  | f + 1, i => if p i = true then i else fd p f (i + 1)
theorem fd_0 (p : Nat → Bool) (i : Nat) : fd p 0 i = i := rfl
theorem fd_t {p : Nat → Bool} {f i : Nat} (h : p i = true) : fd p (f + 1) i = i := if_pos h
theorem fd_f {p : Nat → Bool} {f i : Nat} (h : ¬ p i = true) : fd p (f + 1) i = fd p f (i + 1) := if_neg h
def hit (G : Gr) (k x y : Int32) (i : Nat) : Bool := decide (G.2.1 i = k ∧ G.2.2.1 i = x ∧ G.2.2.2 i = y)
def addN (G : Gr) (k x y : Int32) : Gr := (G.1 + 1, upd G.2.1 G.1 k, upd G.2.2.1 G.1 x, upd G.2.2.2 G.1 y)
def outN (G : Gr) (k x y : Int32) (j : Nat) : Nat × Gr := if j < G.1 then (j, G) else (G.1, addN G k x y)
/-- the node of this kind over these parts, found or made -/
def mk (G : Gr) (k x y : Int32) : Nat × Gr := outN G k x y (fd (hit G k x y) G.1 0)
def GW (w : cx_W) (G : Gr) : Prop := w 1 = oGr (nI G.1) ∧ w 2 = ai 48 G.2.1 ∧ w 3 = ai 48 G.2.2.1 ∧ w 4 = ai 48 G.2.2.2
set_option maxHeartbeats 4000000 in
theorem fom_loop {w : cx_W} {G : Gr} {k x y : Int32} (hG : GW w G) (hn : G.1 < 48) : ∀ (m i : Nat), i + m = G.1 →
    cx_OK none mGr_findOrMake 1 0 0 (fun r w2 _ => r = some (.int (nI (outN G k x y (fd (hit G k x y) m i)).1)) ∧ GW w2 (outN G k x y (fd (hit G k x y) m i)).2 ∧ ∀ q, ¬ (1 ≤ q ∧ q ≤ 4) → w2 q = w q) 3 [some (.ref 1), some (.int k), some (.int x), some (.int y), some (.int (nI i))] [] w (87, 0, 0) := by
  have hG2 := hG
  obtain ⟨h1, h2, h3, h4⟩ := hG
  intro m
  induction m with
  | zero =>
    intro i hi
    have hi2 : i = G.1 := by omega
    refine cx_run 60 mGr_findOrMake_mo ?_
    have hle : (nI G.1 ≤ nI i) = True := eq_true (by rw [hi2]; exact Int32.le_refl _)
    have hv : vp_in (nI G.1) 48 := nI_in hn (by decide)
    have ho : outN G k x y (fd (hit G k x y) 0 i) = (G.1, addN G k x y) := by
      rw [fd_0, hi2]
      exact if_neg (Nat.lt_irrefl _)
    rw [ho]
    simp only [BmGr_findOrMake, BmGr_make, h1, h2, h3, h4, hle, hv, not_true_eq_false, false_imp_iff, true_imp_iff, nI_clamp (n := G.1) (by omega), nI_1, EV, EW, CT, ev_o, ev_is, ev_gd, List.length_cons, List.length_nil, Nat.reduceLT, Nat.reduceAdd, Nat.reduceEqDiff, Nat.reduceLeDiff, reduceIte, true_and, and_true, true_or, or_true]
    refine ⟨⟨?_, ?_, ?_, ?_⟩, fun q hq => ?_⟩
    · simp only [cx_up, reduceIte]; rfl
    · simp only [cx_up, Nat.reduceEqDiff, reduceIte]; rfl
    · simp only [cx_up, Nat.reduceEqDiff, reduceIte]; rfl
    · simp only [cx_up, Nat.reduceEqDiff, reduceIte]; rfl
    · simp (disch := omega) only [cx_up, if_neg]
  | succ m ih =>
    intro i hi
    refine cx_run 60 mGr_findOrMake_mo ?_
    have hle : (nI G.1 ≤ nI i) = False := eq_false (by rw [nI_leI (by omega) (by omega)]; omega)
    have hv : vp_in (nI i) 48 := nI_in (by omega) (by decide)
    simp only [BmGr_findOrMake, BmGr_make, h1, h2, h3, h4, hle, hv, not_false_eq_true, false_imp_iff, true_imp_iff, nI_clamp (n := i) (by omega), nI_1, EV, EW, CT, ev_o, ev_is, ev_gd, List.length_cons, List.length_nil, Nat.reduceLT, Nat.reduceAdd, Nat.reduceEqDiff, Nat.reduceLeDiff, reduceIte, true_and, and_true, true_or, or_true]
    have back : ¬ hit G k x y i = true → cx_OK none mGr_findOrMake 1 0 0 (fun r w2 _ => r = some (.int (nI (outN G k x y (fd (hit G k x y) (m + 1) i)).1)) ∧ GW w2 (outN G k x y (fd (hit G k x y) (m + 1) i)).2 ∧ ∀ q, ¬ (1 ≤ q ∧ q ≤ 4) → w2 q = w q) 3 [some (.ref 1), some (.int k), some (.int x), some (.int y), some (.int (nI (i + 1)))] [] w (87, 0, 0) := by
      intro hh
      rw [fd_f hh]
      exact ih (i + 1) (by omega)
    refine ⟨fun a => ⟨fun b => ⟨fun c => ?_, fun c => back ?_⟩, fun b => back ?_⟩, fun a => back ?_⟩
    · have hh : hit G k x y i = true := decide_eq_true ⟨a, b, c⟩
      rw [fd_t hh]
      have ho : outN G k x y i = (i, G) := if_pos (by omega)
      rw [ho]
      exact ⟨rfl, hG2, fun q _ => trivial⟩
    · exact fun hh => c (of_decide_eq_true hh).2.2
    · exact fun hh => b (of_decide_eq_true hh).2.1
    · exact fun hh => a (of_decide_eq_true hh).1
set_option maxHeartbeats 4000000 in
theorem c_Gr_findOrMake {w : cx_W} {G : Gr} (k x y : Int32) (hG : GW w G) (hn : G.1 < 48) :
    cx_MC mGr_findOrMake 1 0 0 [.ref 1, .int k, .int x, .int y] w 87 (fun r w2 => r = some (.int (nI (mk G k x y).1)) ∧ GW w2 (mk G k x y).2 ∧ ∀ q, ¬ (1 ≤ q ∧ q ≤ 4) → w2 q = w q) := by
  refine cx_met 60 mGr_findOrMake_ok rfl ?_
  show cx_vc 60 none mGr_findOrMake 1 0 0 _ _ 0 [some (.ref 1), some (.int k), some (.int x), some (.int y), none] [] w (87, 0, 0)
  simp only [BmGr_findOrMake, EV, EW, CT, ev_o, ev_is, ev_gd, List.length_cons, List.length_nil, Nat.reduceLT, Nat.reduceAdd, Nat.reduceEqDiff, Nat.reduceLeDiff, reduceIte, true_and, and_true, true_or, or_true]
  exact fom_loop hG hn G.1 0 (by omega)
/-- inv and nand, as both sides do them; iv: the number of the kind INV, nd: of NAND -/
def invN (iv : Int32) (G : Gr) (x : Int32) : Int32 × Gr := if G.2.1 x.toNatClampNeg = iv then (G.2.2.1 x.toNatClampNeg, G) else (nI (mk G iv x (-1)).1, (mk G iv x (-1)).2)
def nandN (iv nd : Int32) (G : Gr) (x y : Int32) : Int32 × Gr := if x = y then invN iv G x else if x < y then (nI (mk G nd x y).1, (mk G nd x y).2) else (nI (mk G nd y x).1, (mk G nd y x).2)
set_option maxHeartbeats 4000000 in
theorem c_Gr_inv {w : cx_W} {G : Gr} (x : Int32) (hG : GW w G) (hn : G.1 < 48) (hx : vp_in x 48) :
    cx_MC mGr_inv 2 0 0 [.ref 1, .int x] w 87 (fun r w2 => r = some (.int (invN 2 G x).1) ∧ GW w2 (invN 2 G x).2 ∧ ∀ q, ¬ (1 ≤ q ∧ q ≤ 4) → w2 q = w q) := by
  have hG2 := hG
  obtain ⟨h1, h2, h3, h4⟩ := hG
  refine cx_met 60 mGr_inv_ok rfl ?_
  show cx_vc 60 none mGr_inv 2 0 0 _ _ 0 [some (.ref 1), some (.int x)] [] w (87, 0, 0)
  by_cases hk : G.2.1 x.toNatClampNeg = 2
  · have e : invN 2 G x = (G.2.2.1 x.toNatClampNeg, G) := if_pos hk
    simp (decide := true) only [BmGr_inv, BmGr_isInv, h1, h2, h3, hx, hk, e, not_true_eq_false, not_false_eq_true, false_imp_iff, true_imp_iff, EV, EW, CT, ev_o, ev_is, ev_gd, List.length_cons, List.length_nil, Nat.reduceLT, Nat.reduceAdd, Nat.reduceEqDiff, Nat.reduceLeDiff, reduceIte, true_and, and_true, true_or, or_true]
    exact ⟨hG2, fun q _ => trivial⟩
  · have e : invN 2 G x = (nI (mk G 2 x (-1)).1, (mk G 2 x (-1)).2) := if_neg hk
    simp (decide := true) only [BmGr_inv, BmGr_isInv, h1, h2, h3, hx, hk, e, not_true_eq_false, not_false_eq_true, false_imp_iff, true_imp_iff, EV, EW, CT, ev_o, ev_is, ev_gd, List.length_cons, List.length_nil, Nat.reduceLT, Nat.reduceAdd, Nat.reduceEqDiff, Nat.reduceLeDiff, reduceIte, true_and, and_true, true_or, or_true]
    refine cx_cs1 1 0 0 (by decide) (c_Gr_findOrMake 2 x (-1) hG2 hn) fun r w2 h => ?_
    obtain ⟨rfl, hr⟩ := h
    simp only [BmGr_inv, EV, EW, CT, ev_o, ev_is, ev_gd, List.length_cons, List.length_nil, Nat.reduceLT, Nat.reduceAdd, Nat.reduceEqDiff, Nat.reduceLeDiff, reduceIte, true_and, and_true, true_or, or_true]
    exact hr
set_option maxHeartbeats 4000000 in
theorem c_Gr_nand {w : cx_W} {G : Gr} (x y : Int32) (hG : GW w G) (hn : G.1 < 48) (hx : vp_in x 48) :
    cx_MC mGr_nand 3 0 0 [.ref 1, .int x, .int y] w 87 (fun r w2 => r = some (.int (nandN 2 3 G x y).1) ∧ GW w2 (nandN 2 3 G x y).2 ∧ ∀ q, ¬ (1 ≤ q ∧ q ≤ 4) → w2 q = w q) := by
  have hG2 := hG
  obtain ⟨h1, h2, h3, h4⟩ := hG
  refine cx_met 60 mGr_nand_ok rfl ?_
  show cx_vc 60 none mGr_nand 3 0 0 _ _ 0 [some (.ref 1), some (.int x), some (.int y)] [] w (87, 0, 0)
  simp (decide := true) only [BmGr_nand, h1, EV, EW, CT, ev_o, ev_is, ev_gd, List.length_cons, List.length_nil, Nat.reduceLT, Nat.reduceAdd, Nat.reduceEqDiff, Nat.reduceLeDiff, reduceIte, true_and, and_true, true_or, or_true]
  refine ⟨fun a => ?_, fun a => ?_⟩
  · subst a
    have e : nandN 2 3 G x x = invN 2 G x := if_pos rfl
    rw [e]
    refine cx_cs1 2 0 0 (by decide) (c_Gr_inv x hG2 hn hx) fun r w2 h => ?_
    obtain ⟨rfl, hr⟩ := h
    simp only [BmGr_nand, EV, EW, CT, ev_o, ev_is, ev_gd, List.length_cons, List.length_nil, Nat.reduceLT, Nat.reduceAdd, Nat.reduceEqDiff, Nat.reduceLeDiff, reduceIte, true_and, and_true, true_or, or_true]
    exact hr
  · refine cx_cs1 1 0 0 (by decide) (c_Gr_findOrMake 3 _ _ hG2 hn) fun r w2 h => ?_
    obtain ⟨rfl, hr⟩ := h
    simp only [BmGr_nand, EV, EW, CT, ev_o, ev_is, ev_gd, List.length_cons, List.length_nil, Nat.reduceLT, Nat.reduceAdd, Nat.reduceEqDiff, Nat.reduceLeDiff, reduceIte, true_and, and_true, true_or, or_true]
    by_cases hlt : x < y
    · have e : nandN 2 3 G x y = (nI (mk G 3 x y).1, (mk G 3 x y).2) := by unfold nandN; rw [if_neg a, if_pos hlt]
      have hn2 : ¬ y < x := fun q => Int32.lt_irrefl (Int32.lt_trans hlt q)
      rw [if_pos hlt, if_neg hn2] at hr ⊢
      rw [e]
      exact ⟨rfl, hr⟩
    · have e : nandN 2 3 G x y = (nI (mk G 3 y x).1, (mk G 3 y x).2) := by unfold nandN; rw [if_neg a, if_neg hlt]
      have hgt : y < x := by
        rcases Int32.lt_or_eq_of_le (Int32.not_lt.mp hlt) with q | q
        · exact q
        · exact absurd q.symm a
      rw [if_neg hlt, if_pos hgt] at hr ⊢
      rw [e]
      exact ⟨rfl, hr⟩
