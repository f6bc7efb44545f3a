/-! joinHalves. Own work. -/
theorem isN.ne {n : Nat} {x : Int32} (h : isN n x) (hn : n ≤ 48) : ¬ x = -1 := by
  obtain ⟨a, ha, rfl⟩ := h
  intro q
  have h1 := nI_toInt (n := a) (by omega)
  rw [q] at h1
  have h2 : ((-1 : Int32)).toInt = -1 := by decide
  omega
/-- a half as the class hands it over: lo 0 or 1: no node, and a flag; 2: the node -/
def half (n lo : Nat) (l : Int32) (node zero : Int32) : Prop := (lo = 0 ∧ node = -1 ∧ zero = 1) ∨ (lo = 1 ∧ node = -1 ∧ zero = 0) ∨ (lo = 2 ∧ node = l ∧ isN n l)
def GQ (w : cx_W) (o : Int32 × Gr) : Option Value → cx_W → Prop := fun r w2 => r = some (.int o.1) ∧ GW w2 o.2 ∧ ∀ q, ¬ (1 ≤ q ∧ q ≤ 4) → w2 q = w q
theorem GQ.of {w w2 : cx_W} {o : Int32 × Gr} {r : Option Value} {w3 : cx_W} (hk : ∀ q, ¬ (1 ≤ q ∧ q ≤ 4) → w2 q = w q) (h : GQ w2 o r w3) : GQ w o r w3 := ⟨h.1, h.2.1, fun q hq => (h.2.2 q hq).trans (hk q hq)⟩
set_option maxHeartbeats 16000000 in
theorem c_Ci_joinHalves {w : cx_W} {G : Gr} {z l h low high lz hz : Int32} {lo hi : Nat} (hG : GW w G) (hW : WFG 2 3 G) (hn : G.1 + 4 ≤ 48) (hzn : isN G.1 z) (hlo : half G.1 lo l low lz) (hhi : half G.1 hi h high hz) :
    cx_MC mCi_joinHalves 4 0 0 [.ref 1, .int z, .int lz, .int hz, .int low, .int high] w 87 (GQ w (joinN 2 3 G z lo l hi h)) := by
  have ne : ¬ (2 : Int32) = 3 := by decide
  have h1 := hG.1
  refine cx_met 90 mCi_joinHalves_ok rfl ?_
  show cx_vc 90 none mCi_joinHalves 4 0 0 _ _ 0 [some (.ref 1), some (.int z), some (.int lz), some (.int hz), some (.int low), some (.int high), none] [] w (87, 0, 0)
  have inv1 : ∀ {w : cx_W} {G : Gr} {x : Int32} (c : Nat), GW w G → WFG 2 3 G → G.1 < 48 → isN G.1 x → cx_MC mGr_inv 2 0 0 [.ref 1, .int x] w 87 (GQ w (invN 2 G x)) := fun _ hG hW hl hx => c_Gr_inv _ hG hl (hx.clamp hW.1).2
  have nand1 : ∀ {w : cx_W} {G : Gr} {x y : Int32} (c : Nat), GW w G → WFG 2 3 G → G.1 < 48 → isN G.1 x → cx_MC mGr_nand 3 0 0 [.ref 1, .int x, .int y] w 87 (GQ w (nandN 2 3 G x y)) := fun _ hG hW hl hx => c_Gr_nand _ _ hG hl (hx.clamp hW.1).2
  have iz := inv_grown ne hW (by omega) hzn
  rcases hlo with ⟨rfl, rfl, rfl⟩ | ⟨rfl, rfl, rfl⟩ | ⟨rfl, rfl, hl⟩
  · rcases hhi with ⟨rfl, rfl, rfl⟩ | ⟨rfl, rfl, rfl⟩ | ⟨rfl, rfl, hh⟩
    · simp (decide := true) only [BmCi_joinHalves, h1, EV, EW, CT, ev_o, ev_is, ev_gd, List.length_cons, List.length_nil, Nat.reduceLT, Nat.reduceAdd, Nat.reduceEqDiff, Nat.reduceLeDiff, Int32.reduceLT, Int32.reduceLE, reduceIte, true_and, and_true, true_or, or_true, not_true_eq_false, not_false_eq_true, false_imp_iff, true_imp_iff, implies_true]
      exact ⟨rfl, hG, fun _ _ => rfl⟩
    · simp (decide := true) only [BmCi_joinHalves, h1, EV, EW, CT, ev_o, ev_is, ev_gd, List.length_cons, List.length_nil, Nat.reduceLT, Nat.reduceAdd, Nat.reduceEqDiff, Nat.reduceLeDiff, Int32.reduceLT, Int32.reduceLE, reduceIte, true_and, and_true, true_or, or_true, not_true_eq_false, not_false_eq_true, false_imp_iff, true_imp_iff, implies_true]
      exact ⟨rfl, hG, fun _ _ => rfl⟩
    · have nh := hh.ne hW.1
      simp (decide := true) only [BmCi_joinHalves, h1, nh, EV, EW, CT, ev_o, ev_is, ev_gd, List.length_cons, List.length_nil, Nat.reduceLT, Nat.reduceAdd, Nat.reduceEqDiff, Nat.reduceLeDiff, Int32.reduceLT, Int32.reduceLE, reduceIte, true_and, and_true, true_or, or_true, not_true_eq_false, not_false_eq_true, false_imp_iff, true_imp_iff, implies_true]
      have n1 := nand_grown ne hW (by omega) hzn hh
      refine cx_cs1 3 0 0 (by decide) (nand1 0 hG hW (by omega) hzn) fun r w2 q => ?_
      obtain ⟨rfl, hG2, hk2⟩ := q
      simp (decide := true) only [BmCi_joinHalves, hG2.1, EV, EW, CT, ev_o, ev_is, ev_gd, List.length_cons, List.length_nil, Nat.reduceLT, Nat.reduceAdd, Nat.reduceEqDiff, Nat.reduceLeDiff, Int32.reduceLT, Int32.reduceLE, reduceIte, true_and, and_true, true_or, or_true, not_true_eq_false, not_false_eq_true, false_imp_iff, true_imp_iff, implies_true]
      refine cx_cs1 2 0 0 (by decide) (inv1 0 hG2 n1.1 (by have := n1.2.2.1; omega) n1.2.2.2.1) fun r w3 q => ?_
      obtain ⟨rfl, hG3, hk3⟩ := q
      simp (decide := true) only [BmCi_joinHalves, EV, EW, CT, ev_o, ev_is, ev_gd, List.length_cons, List.length_nil, Nat.reduceLT, Nat.reduceAdd, Nat.reduceEqDiff, Nat.reduceLeDiff, Int32.reduceLT, Int32.reduceLE, reduceIte, true_and, and_true, true_or, or_true, not_true_eq_false, not_false_eq_true, false_imp_iff, true_imp_iff, implies_true]
      exact GQ.of hk2 ⟨rfl, hG3, hk3⟩
  · rcases hhi with ⟨rfl, rfl, rfl⟩ | ⟨rfl, rfl, rfl⟩ | ⟨rfl, rfl, hh⟩
    · simp (decide := true) only [BmCi_joinHalves, h1, EV, EW, CT, ev_o, ev_is, ev_gd, List.length_cons, List.length_nil, Nat.reduceLT, Nat.reduceAdd, Nat.reduceEqDiff, Nat.reduceLeDiff, Int32.reduceLT, Int32.reduceLE, reduceIte, true_and, and_true, true_or, or_true, not_true_eq_false, not_false_eq_true, false_imp_iff, true_imp_iff, implies_true]
      refine cx_cs1 2 0 0 (by decide) (inv1 0 hG hW (by omega) hzn) fun r w2 q => ?_
      obtain ⟨rfl, hG2, hk2⟩ := q
      simp (decide := true) only [BmCi_joinHalves, EV, EW, CT, ev_o, ev_is, ev_gd, List.length_cons, List.length_nil, Nat.reduceLT, Nat.reduceAdd, Nat.reduceEqDiff, Nat.reduceLeDiff, Int32.reduceLT, Int32.reduceLE, reduceIte, true_and, and_true, true_or, or_true, not_true_eq_false, not_false_eq_true, false_imp_iff, true_imp_iff, implies_true]
      exact ⟨rfl, hG2, hk2⟩
    · simp (decide := true) only [BmCi_joinHalves, h1, EV, EW, CT, ev_o, ev_is, ev_gd, List.length_cons, List.length_nil, Nat.reduceLT, Nat.reduceAdd, Nat.reduceEqDiff, Nat.reduceLeDiff, Int32.reduceLT, Int32.reduceLE, reduceIte, true_and, and_true, true_or, or_true, not_true_eq_false, not_false_eq_true, false_imp_iff, true_imp_iff, implies_true]
      refine cx_cs1 2 0 0 (by decide) (inv1 0 hG hW (by omega) hzn) fun r w2 q => ?_
      obtain ⟨rfl, hG2, hk2⟩ := q
      simp (decide := true) only [BmCi_joinHalves, EV, EW, CT, ev_o, ev_is, ev_gd, List.length_cons, List.length_nil, Nat.reduceLT, Nat.reduceAdd, Nat.reduceEqDiff, Nat.reduceLeDiff, Int32.reduceLT, Int32.reduceLE, reduceIte, true_and, and_true, true_or, or_true, not_true_eq_false, not_false_eq_true, false_imp_iff, true_imp_iff, implies_true]
      exact ⟨rfl, hG2, hk2⟩
    · have nh := hh.ne hW.1
      simp (decide := true) only [BmCi_joinHalves, h1, nh, EV, EW, CT, ev_o, ev_is, ev_gd, List.length_cons, List.length_nil, Nat.reduceLT, Nat.reduceAdd, Nat.reduceEqDiff, Nat.reduceLeDiff, Int32.reduceLT, Int32.reduceLE, reduceIte, true_and, and_true, true_or, or_true, not_true_eq_false, not_false_eq_true, false_imp_iff, true_imp_iff, implies_true]
      have n1 := inv_grown ne hW (by omega) hh
      refine cx_cs1 2 0 0 (by decide) (inv1 0 hG hW (by omega) hh) fun r w2 q => ?_
      obtain ⟨rfl, hG2, hk2⟩ := q
      simp (decide := true) only [BmCi_joinHalves, hG2.1, EV, EW, CT, ev_o, ev_is, ev_gd, List.length_cons, List.length_nil, Nat.reduceLT, Nat.reduceAdd, Nat.reduceEqDiff, Nat.reduceLeDiff, Int32.reduceLT, Int32.reduceLE, reduceIte, true_and, and_true, true_or, or_true, not_true_eq_false, not_false_eq_true, false_imp_iff, true_imp_iff, implies_true]
      refine cx_cs1 3 0 0 (by decide) (nand1 0 hG2 n1.1 (by have := n1.2.2.1; omega) (hzn.mono n1.2.1)) fun r w3 q => ?_
      obtain ⟨rfl, hG3, hk3⟩ := q
      simp (decide := true) only [BmCi_joinHalves, EV, EW, CT, ev_o, ev_is, ev_gd, List.length_cons, List.length_nil, Nat.reduceLT, Nat.reduceAdd, Nat.reduceEqDiff, Nat.reduceLeDiff, Int32.reduceLT, Int32.reduceLE, reduceIte, true_and, and_true, true_or, or_true, not_true_eq_false, not_false_eq_true, false_imp_iff, true_imp_iff, implies_true]
      exact GQ.of hk2 ⟨rfl, hG3, hk3⟩
  · have nl := hl.ne hW.1
    rcases hhi with ⟨rfl, rfl, rfl⟩ | ⟨rfl, rfl, rfl⟩ | ⟨rfl, rfl, hh⟩
    · simp (decide := true) only [BmCi_joinHalves, h1, nl, EV, EW, CT, ev_o, ev_is, ev_gd, List.length_cons, List.length_nil, Nat.reduceLT, Nat.reduceAdd, Nat.reduceEqDiff, Nat.reduceLeDiff, Int32.reduceLT, Int32.reduceLE, reduceIte, true_and, and_true, true_or, or_true, not_true_eq_false, not_false_eq_true, false_imp_iff, true_imp_iff, implies_true]
      refine cx_cs1 2 0 0 (by decide) (inv1 0 hG hW (by omega) hzn) fun r w2 q => ?_
      obtain ⟨rfl, hG2, hk2⟩ := q
      simp (decide := true) only [BmCi_joinHalves, hG2.1, EV, EW, CT, ev_o, ev_is, ev_gd, List.length_cons, List.length_nil, Nat.reduceLT, Nat.reduceAdd, Nat.reduceEqDiff, Nat.reduceLeDiff, Int32.reduceLT, Int32.reduceLE, reduceIte, true_and, and_true, true_or, or_true, not_true_eq_false, not_false_eq_true, false_imp_iff, true_imp_iff, implies_true]
      have n2 := nand_grown ne iz.1 (by have := iz.2.2.1; omega) iz.2.2.2.1 (hl.mono iz.2.1)
      refine cx_cs1 3 0 0 (by decide) (nand1 0 hG2 iz.1 (by have := iz.2.2.1; omega) iz.2.2.2.1) fun r w3 q => ?_
      obtain ⟨rfl, hG3, hk3⟩ := q
      simp (decide := true) only [BmCi_joinHalves, hG3.1, EV, EW, CT, ev_o, ev_is, ev_gd, List.length_cons, List.length_nil, Nat.reduceLT, Nat.reduceAdd, Nat.reduceEqDiff, Nat.reduceLeDiff, Int32.reduceLT, Int32.reduceLE, reduceIte, true_and, and_true, true_or, or_true, not_true_eq_false, not_false_eq_true, false_imp_iff, true_imp_iff, implies_true]
      refine cx_cs1 2 0 0 (by decide) (inv1 0 hG3 n2.1 (by have := n2.2.2.1; have := iz.2.2.1; omega) n2.2.2.2.1) fun r w4 q => ?_
      obtain ⟨rfl, hG4, hk4⟩ := q
      simp (decide := true) only [BmCi_joinHalves, EV, EW, CT, ev_o, ev_is, ev_gd, List.length_cons, List.length_nil, Nat.reduceLT, Nat.reduceAdd, Nat.reduceEqDiff, Nat.reduceLeDiff, Int32.reduceLT, Int32.reduceLE, reduceIte, true_and, and_true, true_or, or_true, not_true_eq_false, not_false_eq_true, false_imp_iff, true_imp_iff, implies_true]
      exact GQ.of hk2 (GQ.of hk3 ⟨rfl, hG4, hk4⟩)
    · simp (decide := true) only [BmCi_joinHalves, h1, nl, EV, EW, CT, ev_o, ev_is, ev_gd, List.length_cons, List.length_nil, Nat.reduceLT, Nat.reduceAdd, Nat.reduceEqDiff, Nat.reduceLeDiff, Int32.reduceLT, Int32.reduceLE, reduceIte, true_and, and_true, true_or, or_true, not_true_eq_false, not_false_eq_true, false_imp_iff, true_imp_iff, implies_true]
      refine cx_cs1 2 0 0 (by decide) (inv1 0 hG hW (by omega) hzn) fun r w2 q => ?_
      obtain ⟨rfl, hG2, hk2⟩ := q
      simp (decide := true) only [BmCi_joinHalves, hG2.1, EV, EW, CT, ev_o, ev_is, ev_gd, List.length_cons, List.length_nil, Nat.reduceLT, Nat.reduceAdd, Nat.reduceEqDiff, Nat.reduceLeDiff, Int32.reduceLT, Int32.reduceLE, reduceIte, true_and, and_true, true_or, or_true, not_true_eq_false, not_false_eq_true, false_imp_iff, true_imp_iff, implies_true]
      have n2 := inv_grown ne iz.1 (by have := iz.2.2.1; omega) (hl.mono iz.2.1)
      refine cx_cs1 2 0 0 (by decide) (inv1 0 hG2 iz.1 (by have := iz.2.2.1; omega) (hl.mono iz.2.1)) fun r w3 q => ?_
      obtain ⟨rfl, hG3, hk3⟩ := q
      simp (decide := true) only [BmCi_joinHalves, hG3.1, EV, EW, CT, ev_o, ev_is, ev_gd, List.length_cons, List.length_nil, Nat.reduceLT, Nat.reduceAdd, Nat.reduceEqDiff, Nat.reduceLeDiff, Int32.reduceLT, Int32.reduceLE, reduceIte, true_and, and_true, true_or, or_true, not_true_eq_false, not_false_eq_true, false_imp_iff, true_imp_iff, implies_true]
      refine cx_cs1 3 0 0 (by decide) (nand1 0 hG3 n2.1 (by have := n2.2.2.1; have := iz.2.2.1; omega) (iz.2.2.2.1.mono n2.2.1)) fun r w4 q => ?_
      obtain ⟨rfl, hG4, hk4⟩ := q
      simp (decide := true) only [BmCi_joinHalves, EV, EW, CT, ev_o, ev_is, ev_gd, List.length_cons, List.length_nil, Nat.reduceLT, Nat.reduceAdd, Nat.reduceEqDiff, Nat.reduceLeDiff, Int32.reduceLT, Int32.reduceLE, reduceIte, true_and, and_true, true_or, or_true, not_true_eq_false, not_false_eq_true, false_imp_iff, true_imp_iff, implies_true]
      exact GQ.of hk2 (GQ.of hk3 ⟨rfl, hG4, hk4⟩)
    · have nh := hh.ne hW.1
      simp (decide := true) only [BmCi_joinHalves, h1, nl, nh, EV, EW, CT, ev_o, ev_is, ev_gd, List.length_cons, List.length_nil, Nat.reduceLT, Nat.reduceAdd, Nat.reduceEqDiff, Nat.reduceLeDiff, Int32.reduceLT, Int32.reduceLE, reduceIte, true_and, and_true, true_or, or_true, not_true_eq_false, not_false_eq_true, false_imp_iff, true_imp_iff, implies_true]
      have n1 := nand_grown ne hW (by omega) hzn hh
      refine cx_cs1 3 0 0 (by decide) (nand1 0 hG hW (by omega) hzn) fun r w2 q => ?_
      obtain ⟨rfl, hG2, hk2⟩ := q
      simp (decide := true) only [BmCi_joinHalves, hG2.1, EV, EW, CT, ev_o, ev_is, ev_gd, List.length_cons, List.length_nil, Nat.reduceLT, Nat.reduceAdd, Nat.reduceEqDiff, Nat.reduceLeDiff, Int32.reduceLT, Int32.reduceLE, reduceIte, true_and, and_true, true_or, or_true, not_true_eq_false, not_false_eq_true, false_imp_iff, true_imp_iff, implies_true]
      have n2 := inv_grown ne n1.1 (by have := n1.2.2.1; omega) (hzn.mono n1.2.1)
      refine cx_cs1 2 0 0 (by decide) (inv1 0 hG2 n1.1 (by have := n1.2.2.1; omega) (hzn.mono n1.2.1)) fun r w3 q => ?_
      obtain ⟨rfl, hG3, hk3⟩ := q
      simp (decide := true) only [BmCi_joinHalves, hG3.1, EV, EW, CT, ev_o, ev_is, ev_gd, List.length_cons, List.length_nil, Nat.reduceLT, Nat.reduceAdd, Nat.reduceEqDiff, Nat.reduceLeDiff, Int32.reduceLT, Int32.reduceLE, reduceIte, true_and, and_true, true_or, or_true, not_true_eq_false, not_false_eq_true, false_imp_iff, true_imp_iff, implies_true]
      have n3 := nand_grown ne n2.1 (by have := n2.2.2.1; have := n1.2.2.1; omega) n2.2.2.2.1 ((hl.mono n1.2.1).mono n2.2.1)
      refine cx_cs1 3 0 0 (by decide) (nand1 0 hG3 n2.1 (by have := n2.2.2.1; have := n1.2.2.1; omega) n2.2.2.2.1) fun r w4 q => ?_
      obtain ⟨rfl, hG4, hk4⟩ := q
      simp (decide := true) only [BmCi_joinHalves, hG4.1, EV, EW, CT, ev_o, ev_is, ev_gd, List.length_cons, List.length_nil, Nat.reduceLT, Nat.reduceAdd, Nat.reduceEqDiff, Nat.reduceLeDiff, Int32.reduceLT, Int32.reduceLE, reduceIte, true_and, and_true, true_or, or_true, not_true_eq_false, not_false_eq_true, false_imp_iff, true_imp_iff, implies_true]
      refine cx_cs1 3 0 0 (by decide) (nand1 0 hG4 n3.1 (by have := n3.2.2.1; have := n2.2.2.1; have := n1.2.2.1; omega) ((n1.2.2.2.1.mono n2.2.1).mono n3.2.1)) fun r w5 q => ?_
      obtain ⟨rfl, hG5, hk5⟩ := q
      simp (decide := true) only [BmCi_joinHalves, EV, EW, CT, ev_o, ev_is, ev_gd, List.length_cons, List.length_nil, Nat.reduceLT, Nat.reduceAdd, Nat.reduceEqDiff, Nat.reduceLeDiff, Int32.reduceLT, Int32.reduceLE, reduceIte, true_and, and_true, true_or, or_true, not_true_eq_false, not_false_eq_true, false_imp_iff, true_imp_iff, implies_true]
      exact GQ.of hk2 (GQ.of hk3 (GQ.of hk4 ⟨rfl, hG5, hk5⟩))
