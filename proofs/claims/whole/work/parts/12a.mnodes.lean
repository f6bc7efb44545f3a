/-! The reference's nodes. Own work. -/
def MW (x : List Int32) (w : cx_W) (G : Gr) (no : Nat → Int32) : Prop := w 45 = oM (x.getD 0 0) (x.getD 1 0) (x.getD 2 0) (nI G.1) (x.getD 3 0) (x.getD 4 0) (x.getD 5 0) (x.getD 6 0) (x.getD 7 0) (x.getD 8 0) ∧ w 56 = ai 48 G.2.1 ∧ w 57 = ai 48 G.2.2.1 ∧ w 58 = ai 48 G.2.2.2 ∧ w 59 = ai 48 no
def mfr (q : Nat) : Prop := ¬ (q = 45 ∨ (56 ≤ q ∧ q ≤ 59))
def NQ (x : List Int32) (w : cx_W) (n : Nat) (no : Nat → Int32) (o : Int32 × Gr) : Option Value → cx_W → Prop := fun r w2 => r = some (.int o.1) ∧ (∃ no2, MW x w2 o.2 no2 ∧ ∀ j, j < n → no2 j = no j) ∧ ∀ q, mfr q → w2 q = w q
theorem NQ.of {x : List Int32} {w w2 w3 : cx_W} {n m : Nat} {no no2 : Nat → Int32} {o : Int32 × Gr} {r : Option Value} (hk : ∀ q, mfr q → w2 q = w q) (hnm : n ≤ m) (hno : ∀ j, j < n → no2 j = no j) (h : NQ x w2 m no2 o r w3) : NQ x w n no o r w3 := by
  obtain ⟨h1, ⟨no3, h2, h3⟩, h4⟩ := h
  exact ⟨h1, ⟨no3, h2, fun j hj => (h3 j (by omega)).trans (hno j hj)⟩, fun q hq => (h4 q hq).trans (hk q hq)⟩
set_option maxHeartbeats 4000000 in
theorem mfind_loop {x : List Int32} {w : cx_W} {G : Gr} {no : Nat → Int32} {k a b : Int32} (hG : MW x w G no) (hn : G.1 < 48) : ∀ (m i : Nat), i + m = G.1 →
    cx_OK none mM_find 1 0 0 (fun r w2 _ => NQ x w G.1 no (nI (outN G k a b (fd (hit G k a b) m i)).1, (outN G k a b (fd (hit G k a b) m i)).2) r w2) 3 [some (.ref 45), some (.int k), some (.int a), some (.int b), some (.int (nI i))] [] w (87, 0, 0) := by
  have hG2 := hG
  obtain ⟨h1, h2, h3, h4, h5⟩ := hG
  intro m
  induction m with
  | zero =>
    intro i hi
    have hi2 : i = G.1 := by omega
    refine cx_run 80 mM_find_mo ?_
    have hle : (nI G.1 ≤ nI i) = True := eq_true (by rw [hi2]; exact Int32.le_refl _)
    have hv : vp_in (nI G.1) 48 := nI_in hn (by decide)
    have ho : outN G k a b (fd (hit G k a b) 0 i) = (G.1, addN G k a b) := by
      rw [fd_0, hi2]
      exact if_neg (Nat.lt_irrefl _)
    rw [ho]
    simp only [BmM_find, BmM_newNode, h1, h2, h3, h4, h5, hle, hv, not_true_eq_false, false_imp_iff, true_imp_iff, nI_clamp (n := G.1) (by omega), nI_1, nI_pred, EV, EW, CT, ev_o, ev_is, ev_gd, List.length_cons, List.length_nil, Nat.reduceLT, Nat.reduceAdd, Nat.reduceEqDiff, Nat.reduceLeDiff, reduceIte, true_and, and_true, true_or, or_true]
    refine ⟨rfl, ⟨upd no G.1 (-1), ⟨?_, ?_, ?_, ?_, ?_⟩, fun j hj => ?_⟩, fun q hq => ?_⟩
    · simp only [cx_up, reduceIte]; rfl
    · simp only [cx_up, Nat.reduceEqDiff, reduceIte]; rfl
    · simp only [cx_up, Nat.reduceEqDiff, reduceIte]; rfl
    · simp only [cx_up, Nat.reduceEqDiff, reduceIte]; rfl
    · simp only [cx_up, Nat.reduceEqDiff, reduceIte]
    · unfold upd; rw [if_neg (by omega)]
    · unfold mfr at hq
      simp (disch := omega) only [cx_up, if_neg]
  | succ m ih =>
    intro i hi
    refine cx_run 80 mM_find_mo ?_
    have hle : (nI G.1 ≤ nI i) = False := eq_false (by rw [nI_leI (by omega) (by omega)]; omega)
    have hv : vp_in (nI i) 48 := nI_in (by omega) (by decide)
    simp only [BmM_find, BmM_newNode, h1, h2, h3, h4, h5, hle, hv, not_false_eq_true, false_imp_iff, true_imp_iff, nI_clamp (n := i) (by omega), nI_1, EV, EW, CT, ev_o, ev_is, ev_gd, List.length_cons, List.length_nil, Nat.reduceLT, Nat.reduceAdd, Nat.reduceEqDiff, Nat.reduceLeDiff, reduceIte, true_and, and_true, true_or, or_true]
    have back : ¬ hit G k a b i = true → cx_OK none mM_find 1 0 0 (fun r w2 _ => NQ x w G.1 no (nI (outN G k a b (fd (hit G k a b) (m + 1) i)).1, (outN G k a b (fd (hit G k a b) (m + 1) i)).2) r w2) 3 [some (.ref 45), some (.int k), some (.int a), some (.int b), some (.int (nI (i + 1)))] [] w (87, 0, 0) := by
      intro hh
      rw [fd_f hh]
      exact ih (i + 1) (by omega)
    refine ⟨fun c1 => ⟨fun c2 => ⟨fun c3 => ?_, fun c3 => back ?_⟩, fun c2 => back ?_⟩, fun c1 => back ?_⟩
    · have hh : hit G k a b i = true := decide_eq_true ⟨c1, c2, c3⟩
      rw [fd_t hh]
      have ho : outN G k a b i = (i, G) := if_pos (by omega)
      rw [ho]
      exact ⟨rfl, ⟨no, hG2, fun _ _ => rfl⟩, fun q _ => rfl⟩
    · exact fun hh => c3 (of_decide_eq_true hh).2.2
    · exact fun hh => c2 (of_decide_eq_true hh).2.1
    · exact fun hh => c1 (of_decide_eq_true hh).1
set_option maxHeartbeats 4000000 in
theorem c_M_find {x : List Int32} {w : cx_W} {G : Gr} {no : Nat → Int32} (k a b : Int32) (hG : MW x w G no) (hn : G.1 < 48) :
    cx_MC mM_find 1 0 0 [.ref 45, .int k, .int a, .int b] w 87 (NQ x w G.1 no (nI (mk G k a b).1, (mk G k a b).2)) := by
  refine cx_met 60 mM_find_ok rfl ?_
  show cx_vc 60 none mM_find 1 0 0 _ _ 0 [some (.ref 45), some (.int k), some (.int a), some (.int b), none] [] w (87, 0, 0)
  simp only [BmM_find, EV, EW, CT, ev_o, ev_is, ev_gd, List.length_cons, List.length_nil, Nat.reduceLT, Nat.reduceAdd, Nat.reduceEqDiff, Nat.reduceLeDiff, reduceIte, true_and, and_true, true_or, or_true]
  exact mfind_loop hG hn G.1 0 (by omega)
set_option maxHeartbeats 4000000 in
theorem c_M_inv {x : List Int32} {w : cx_W} {G : Gr} {no : Nat → Int32} (a : Int32) (hG : MW x w G no) (hn : G.1 < 48) (hx : vp_in a 48) :
    cx_MC mM_inv 2 0 0 [.ref 45, .int a] w 87 (NQ x w G.1 no (invN 3 G a)) := by
  have hG2 := hG
  obtain ⟨h1, h2, h3, h4, h5⟩ := hG
  refine cx_met 60 mM_inv_ok rfl ?_
  show cx_vc 60 none mM_inv 2 0 0 _ _ 0 [some (.ref 45), some (.int a)] [] w (87, 0, 0)
  by_cases hk : G.2.1 a.toNatClampNeg = 3
  · have e : invN 3 G a = (G.2.2.1 a.toNatClampNeg, G) := if_pos hk
    simp (decide := true) only [BmM_inv, h1, h2, h3, hx, hk, e, not_true_eq_false, not_false_eq_true, false_imp_iff, true_imp_iff, EV, EW, CT, ev_o, ev_is, ev_gd, List.length_cons, List.length_nil, Nat.reduceLT, Nat.reduceAdd, Nat.reduceEqDiff, Nat.reduceLeDiff, reduceIte, true_and, and_true, true_or, or_true]
    exact ⟨rfl, ⟨no, hG2, fun _ _ => rfl⟩, fun q _ => rfl⟩
  · have e : invN 3 G a = (nI (mk G 3 a (-1)).1, (mk G 3 a (-1)).2) := if_neg hk
    simp (decide := true) only [BmM_inv, h1, h2, h3, hx, hk, e, not_true_eq_false, not_false_eq_true, false_imp_iff, true_imp_iff, EV, EW, CT, ev_o, ev_is, ev_gd, List.length_cons, List.length_nil, Nat.reduceLT, Nat.reduceAdd, Nat.reduceEqDiff, Nat.reduceLeDiff, reduceIte, true_and, and_true, true_or, or_true]
    refine cx_cs1 1 0 0 (by decide) (c_M_find 3 a (-1) hG2 hn) fun r w2 h => ?_
    obtain ⟨rfl, hr⟩ := h
    simp only [BmM_inv, EV, EW, CT, ev_o, ev_is, ev_gd, List.length_cons, List.length_nil, Nat.reduceLT, Nat.reduceAdd, Nat.reduceEqDiff, Nat.reduceLeDiff, reduceIte, true_and, and_true, true_or, or_true]
    exact ⟨rfl, hr⟩
set_option maxHeartbeats 4000000 in
theorem c_M_nand {x : List Int32} {w : cx_W} {G : Gr} {no : Nat → Int32} (a b : Int32) (hG : MW x w G no) (hn : G.1 < 48) (hx : vp_in a 48) :
    cx_MC mM_nand 3 0 0 [.ref 45, .int a, .int b] w 87 (NQ x w G.1 no (nandN 3 2 G a b)) := by
  have hG2 := hG
  obtain ⟨h1, h2, h3, h4, h5⟩ := hG
  refine cx_met 60 mM_nand_ok rfl ?_
  show cx_vc 60 none mM_nand 3 0 0 _ _ 0 [some (.ref 45), some (.int a), some (.int b)] [] w (87, 0, 0)
  simp (decide := true) only [BmM_nand, h1, EV, EW, CT, ev_o, ev_is, ev_gd, List.length_cons, List.length_nil, Nat.reduceLT, Nat.reduceAdd, Nat.reduceEqDiff, Nat.reduceLeDiff, reduceIte, true_and, and_true, true_or, or_true]
  refine ⟨fun q => ?_, fun q => ⟨fun q2 => ?_, fun q2 => ?_⟩⟩
  · subst q
    have e : nandN 3 2 G a a = invN 3 G a := if_pos rfl
    rw [e]
    refine cx_cs1 2 0 0 (by decide) (c_M_inv a hG2 hn hx) fun r w2 h => ?_
    obtain ⟨rfl, hr⟩ := h
    simp only [BmM_nand, EV, EW, CT, ev_o, ev_is, ev_gd, List.length_cons, List.length_nil, Nat.reduceLT, Nat.reduceAdd, Nat.reduceEqDiff, Nat.reduceLeDiff, reduceIte, true_and, and_true, true_or, or_true]
    exact ⟨rfl, hr⟩
  · have e : nandN 3 2 G a b = (nI (mk G 2 b a).1, (mk G 2 b a).2) := by unfold nandN; rw [if_neg q, if_neg (Int32.not_lt.mpr q2)]
    rw [e]
    refine cx_cs1 1 0 0 (by decide) (c_M_find 2 b a hG2 hn) fun r w2 h => ?_
    obtain ⟨rfl, hr⟩ := h
    simp only [BmM_nand, EV, EW, CT, ev_o, ev_is, ev_gd, List.length_cons, List.length_nil, Nat.reduceLT, Nat.reduceAdd, Nat.reduceEqDiff, Nat.reduceLeDiff, reduceIte, true_and, and_true, true_or, or_true]
    exact ⟨rfl, hr⟩
  · have e : nandN 3 2 G a b = (nI (mk G 2 a b).1, (mk G 2 a b).2) := by unfold nandN; rw [if_neg q, if_pos (Int32.not_le.mp q2)]
    rw [e]
    refine cx_cs1 1 0 0 (by decide) (c_M_find 2 a b hG2 hn) fun r w2 h => ?_
    obtain ⟨rfl, hr⟩ := h
    simp only [BmM_nand, EV, EW, CT, ev_o, ev_is, ev_gd, List.length_cons, List.length_nil, Nat.reduceLT, Nat.reduceAdd, Nat.reduceEqDiff, Nat.reduceLeDiff, reduceIte, true_and, and_true, true_or, or_true]
    exact ⟨rfl, hr⟩
