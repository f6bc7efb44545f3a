/-! The reference's join. Printed by gen_mjoin.py. -/
theorem nI1 : nI 1 = 1 := rfl
theorem nI2 : nI 2 = 2 := rfl
set_option maxHeartbeats 4000000 in
theorem c_M_join {x : List Int32} {w : cx_W} {G : Gr} {no : Nat → Int32} {z l h : Int32} {lo hi : Nat} (hG : MW x w G no) (hW : WFG 3 2 G) (hn : G.1 + 4 ≤ 48) (hz : isN G.1 z) (hlo : lo ≤ 2) (hhi : hi ≤ 2) (hl : lo = 2 → isN G.1 l) (hh : hi = 2 → isN G.1 h) :
    cx_MC mM_join 4 0 0 [.ref 45, .int z, .int (nI lo), .int l, .int (nI hi), .int h] w 87 (NQ x w G.1 no (joinN 3 2 G z lo l hi h)) := by
  have ne : ¬ (3 : Int32) = 2 := by decide
  refine cx_met 120 mM_join_ok rfl ?_
  show cx_vc 120 none mM_join 4 0 0 _ _ 0 [some (.ref 45), some (.int z), some (.int (nI lo)), some (.int l), some (.int (nI hi)), some (.int h), none, none, none] [] w (87, 0, 0)
  have inv1 : ∀ {w : cx_W} {G : Gr} {no : Nat → Int32} {a : Int32}, MW x w G no → WFG 3 2 G → G.1 < 48 → isN G.1 a → cx_MC mM_inv 2 0 0 [.ref 45, .int a] w 87 (NQ x w G.1 no (invN 3 G a)) := fun hG hW hq ha => c_M_inv _ hG hq (ha.clamp hW.1).2
  have nand1 : ∀ {w : cx_W} {G : Gr} {no : Nat → Int32} {a b : Int32}, MW x w G no → WFG 3 2 G → G.1 < 48 → isN G.1 a → cx_MC mM_nand 3 0 0 [.ref 45, .int a, .int b] w 87 (NQ x w G.1 no (nandN 3 2 G a b)) := fun hG hW hq ha => c_M_nand _ _ hG hq (ha.clamp hW.1).2
  have h1 := hG.1
  rcases (show lo = 0 ∨ lo = 1 ∨ lo = 2 by omega) with rfl | rfl | rfl <;> rcases (show hi = 0 ∨ hi = 1 ∨ hi = 2 by omega) with rfl | rfl | rfl
  · simp (decide := true) only [BmM_join, nI_0, nI1, nI2, h1, EV, EW, CT, ev_o, ev_is, ev_gd, List.length_cons, List.length_nil, Nat.reduceLT, Nat.reduceAdd, Nat.reduceEqDiff, Nat.reduceLeDiff, Int32.reduceLT, Int32.reduceLE, reduceIte, true_and, and_true, true_or, or_true, not_true_eq_false, not_false_eq_true, false_imp_iff, true_imp_iff, implies_true]
    exact ⟨rfl, ⟨no, hG, fun _ _ => rfl⟩, fun _ _ => rfl⟩
  · simp (decide := true) only [BmM_join, nI_0, nI1, nI2, h1, EV, EW, CT, ev_o, ev_is, ev_gd, List.length_cons, List.length_nil, Nat.reduceLT, Nat.reduceAdd, Nat.reduceEqDiff, Nat.reduceLeDiff, Int32.reduceLT, Int32.reduceLE, reduceIte, true_and, and_true, true_or, or_true, not_true_eq_false, not_false_eq_true, false_imp_iff, true_imp_iff, implies_true]
    exact ⟨rfl, ⟨no, hG, fun _ _ => rfl⟩, fun _ _ => rfl⟩
  · simp (decide := true) only [BmM_join, nI_0, nI1, nI2, h1, EV, EW, CT, ev_o, ev_is, ev_gd, List.length_cons, List.length_nil, Nat.reduceLT, Nat.reduceAdd, Nat.reduceEqDiff, Nat.reduceLeDiff, Int32.reduceLT, Int32.reduceLE, reduceIte, true_and, and_true, true_or, or_true, not_true_eq_false, not_false_eq_true, false_imp_iff, true_imp_iff, implies_true]
    have n1 := nand_grown ne hW (by omega) hz (hh rfl)
    refine cx_cs1 3 0 0 (by decide) (nand1 hG hW (by omega) hz) fun r w1 q => ?_
    obtain ⟨rfl, ⟨no1, q1, e1⟩, k1⟩ := q
    simp (decide := true) only [BmM_join, nI_0, nI1, nI2, q1.1, EV, EW, CT, ev_o, ev_is, ev_gd, List.length_cons, List.length_nil, Nat.reduceLT, Nat.reduceAdd, Nat.reduceEqDiff, Nat.reduceLeDiff, Int32.reduceLT, Int32.reduceLE, reduceIte, true_and, and_true, true_or, or_true, not_true_eq_false, not_false_eq_true, false_imp_iff, true_imp_iff, implies_true]
    have n2 := inv_grown ne n1.1 (by have := n1.2.2.1; omega) n1.2.2.2.1
    refine cx_cs1 2 0 0 (by decide) (inv1 q1 n1.1 (by have := n1.2.2.1; omega) n1.2.2.2.1) fun r w2 q => ?_
    obtain ⟨rfl, ⟨no2, q2, e2⟩, k2⟩ := q
    simp (decide := true) only [BmM_join, nI_0, nI1, nI2, q2.1, EV, EW, CT, ev_o, ev_is, ev_gd, List.length_cons, List.length_nil, Nat.reduceLT, Nat.reduceAdd, Nat.reduceEqDiff, Nat.reduceLeDiff, Int32.reduceLT, Int32.reduceLE, reduceIte, true_and, and_true, true_or, or_true, not_true_eq_false, not_false_eq_true, false_imp_iff, true_imp_iff, implies_true]
    exact NQ.of k1 n1.2.1 e1 ⟨rfl, ⟨no2, q2, e2⟩, k2⟩
  · simp (decide := true) only [BmM_join, nI_0, nI1, nI2, h1, EV, EW, CT, ev_o, ev_is, ev_gd, List.length_cons, List.length_nil, Nat.reduceLT, Nat.reduceAdd, Nat.reduceEqDiff, Nat.reduceLeDiff, Int32.reduceLT, Int32.reduceLE, reduceIte, true_and, and_true, true_or, or_true, not_true_eq_false, not_false_eq_true, false_imp_iff, true_imp_iff, implies_true]
    have n1 := inv_grown ne hW (by omega) hz
    refine cx_cs1 2 0 0 (by decide) (inv1 hG hW (by omega) hz) fun r w1 q => ?_
    obtain ⟨rfl, ⟨no1, q1, e1⟩, k1⟩ := q
    simp (decide := true) only [BmM_join, nI_0, nI1, nI2, q1.1, EV, EW, CT, ev_o, ev_is, ev_gd, List.length_cons, List.length_nil, Nat.reduceLT, Nat.reduceAdd, Nat.reduceEqDiff, Nat.reduceLeDiff, Int32.reduceLT, Int32.reduceLE, reduceIte, true_and, and_true, true_or, or_true, not_true_eq_false, not_false_eq_true, false_imp_iff, true_imp_iff, implies_true]
    exact ⟨rfl, ⟨no1, q1, e1⟩, k1⟩
  · simp (decide := true) only [BmM_join, nI_0, nI1, nI2, h1, EV, EW, CT, ev_o, ev_is, ev_gd, List.length_cons, List.length_nil, Nat.reduceLT, Nat.reduceAdd, Nat.reduceEqDiff, Nat.reduceLeDiff, Int32.reduceLT, Int32.reduceLE, reduceIte, true_and, and_true, true_or, or_true, not_true_eq_false, not_false_eq_true, false_imp_iff, true_imp_iff, implies_true]
    have n1 := inv_grown ne hW (by omega) hz
    refine cx_cs1 2 0 0 (by decide) (inv1 hG hW (by omega) hz) fun r w1 q => ?_
    obtain ⟨rfl, ⟨no1, q1, e1⟩, k1⟩ := q
    simp (decide := true) only [BmM_join, nI_0, nI1, nI2, q1.1, EV, EW, CT, ev_o, ev_is, ev_gd, List.length_cons, List.length_nil, Nat.reduceLT, Nat.reduceAdd, Nat.reduceEqDiff, Nat.reduceLeDiff, Int32.reduceLT, Int32.reduceLE, reduceIte, true_and, and_true, true_or, or_true, not_true_eq_false, not_false_eq_true, false_imp_iff, true_imp_iff, implies_true]
    exact ⟨rfl, ⟨no1, q1, e1⟩, k1⟩
  · simp (decide := true) only [BmM_join, nI_0, nI1, nI2, h1, EV, EW, CT, ev_o, ev_is, ev_gd, List.length_cons, List.length_nil, Nat.reduceLT, Nat.reduceAdd, Nat.reduceEqDiff, Nat.reduceLeDiff, Int32.reduceLT, Int32.reduceLE, reduceIte, true_and, and_true, true_or, or_true, not_true_eq_false, not_false_eq_true, false_imp_iff, true_imp_iff, implies_true]
    have n1 := inv_grown ne hW (by omega) (hh rfl)
    refine cx_cs1 2 0 0 (by decide) (inv1 hG hW (by omega) (hh rfl)) fun r w1 q => ?_
    obtain ⟨rfl, ⟨no1, q1, e1⟩, k1⟩ := q
    simp (decide := true) only [BmM_join, nI_0, nI1, nI2, q1.1, EV, EW, CT, ev_o, ev_is, ev_gd, List.length_cons, List.length_nil, Nat.reduceLT, Nat.reduceAdd, Nat.reduceEqDiff, Nat.reduceLeDiff, Int32.reduceLT, Int32.reduceLE, reduceIte, true_and, and_true, true_or, or_true, not_true_eq_false, not_false_eq_true, false_imp_iff, true_imp_iff, implies_true]
    have n2 := nand_grown ne n1.1 (by have := n1.2.2.1; omega) (hz.mono n1.2.1) n1.2.2.2.1
    refine cx_cs1 3 0 0 (by decide) (nand1 q1 n1.1 (by have := n1.2.2.1; omega) (hz.mono n1.2.1)) fun r w2 q => ?_
    obtain ⟨rfl, ⟨no2, q2, e2⟩, k2⟩ := q
    simp (decide := true) only [BmM_join, nI_0, nI1, nI2, q2.1, EV, EW, CT, ev_o, ev_is, ev_gd, List.length_cons, List.length_nil, Nat.reduceLT, Nat.reduceAdd, Nat.reduceEqDiff, Nat.reduceLeDiff, Int32.reduceLT, Int32.reduceLE, reduceIte, true_and, and_true, true_or, or_true, not_true_eq_false, not_false_eq_true, false_imp_iff, true_imp_iff, implies_true]
    exact NQ.of k1 n1.2.1 e1 ⟨rfl, ⟨no2, q2, e2⟩, k2⟩
  · simp (decide := true) only [BmM_join, nI_0, nI1, nI2, h1, EV, EW, CT, ev_o, ev_is, ev_gd, List.length_cons, List.length_nil, Nat.reduceLT, Nat.reduceAdd, Nat.reduceEqDiff, Nat.reduceLeDiff, Int32.reduceLT, Int32.reduceLE, reduceIte, true_and, and_true, true_or, or_true, not_true_eq_false, not_false_eq_true, false_imp_iff, true_imp_iff, implies_true]
    have n1 := inv_grown ne hW (by omega) hz
    refine cx_cs1 2 0 0 (by decide) (inv1 hG hW (by omega) hz) fun r w1 q => ?_
    obtain ⟨rfl, ⟨no1, q1, e1⟩, k1⟩ := q
    simp (decide := true) only [BmM_join, nI_0, nI1, nI2, q1.1, EV, EW, CT, ev_o, ev_is, ev_gd, List.length_cons, List.length_nil, Nat.reduceLT, Nat.reduceAdd, Nat.reduceEqDiff, Nat.reduceLeDiff, Int32.reduceLT, Int32.reduceLE, reduceIte, true_and, and_true, true_or, or_true, not_true_eq_false, not_false_eq_true, false_imp_iff, true_imp_iff, implies_true]
    have n2 := nand_grown ne n1.1 (by have := n1.2.2.1; omega) n1.2.2.2.1 ((hl rfl).mono n1.2.1)
    refine cx_cs1 3 0 0 (by decide) (nand1 q1 n1.1 (by have := n1.2.2.1; omega) n1.2.2.2.1) fun r w2 q => ?_
    obtain ⟨rfl, ⟨no2, q2, e2⟩, k2⟩ := q
    simp (decide := true) only [BmM_join, nI_0, nI1, nI2, q2.1, EV, EW, CT, ev_o, ev_is, ev_gd, List.length_cons, List.length_nil, Nat.reduceLT, Nat.reduceAdd, Nat.reduceEqDiff, Nat.reduceLeDiff, Int32.reduceLT, Int32.reduceLE, reduceIte, true_and, and_true, true_or, or_true, not_true_eq_false, not_false_eq_true, false_imp_iff, true_imp_iff, implies_true]
    have n3 := inv_grown ne n2.1 (by have := n1.2.2.1; have := n2.2.2.1; omega) n2.2.2.2.1
    refine cx_cs1 2 0 0 (by decide) (inv1 q2 n2.1 (by have := n1.2.2.1; have := n2.2.2.1; omega) n2.2.2.2.1) fun r w3 q => ?_
    obtain ⟨rfl, ⟨no3, q3, e3⟩, k3⟩ := q
    simp (decide := true) only [BmM_join, nI_0, nI1, nI2, q3.1, EV, EW, CT, ev_o, ev_is, ev_gd, List.length_cons, List.length_nil, Nat.reduceLT, Nat.reduceAdd, Nat.reduceEqDiff, Nat.reduceLeDiff, Int32.reduceLT, Int32.reduceLE, reduceIte, true_and, and_true, true_or, or_true, not_true_eq_false, not_false_eq_true, false_imp_iff, true_imp_iff, implies_true]
    exact NQ.of k1 n1.2.1 e1 (NQ.of k2 n2.2.1 e2 ⟨rfl, ⟨no3, q3, e3⟩, k3⟩)
  · simp (decide := true) only [BmM_join, nI_0, nI1, nI2, h1, EV, EW, CT, ev_o, ev_is, ev_gd, List.length_cons, List.length_nil, Nat.reduceLT, Nat.reduceAdd, Nat.reduceEqDiff, Nat.reduceLeDiff, Int32.reduceLT, Int32.reduceLE, reduceIte, true_and, and_true, true_or, or_true, not_true_eq_false, not_false_eq_true, false_imp_iff, true_imp_iff, implies_true]
    have n1 := inv_grown ne hW (by omega) hz
    refine cx_cs1 2 0 0 (by decide) (inv1 hG hW (by omega) hz) fun r w1 q => ?_
    obtain ⟨rfl, ⟨no1, q1, e1⟩, k1⟩ := q
    simp (decide := true) only [BmM_join, nI_0, nI1, nI2, q1.1, EV, EW, CT, ev_o, ev_is, ev_gd, List.length_cons, List.length_nil, Nat.reduceLT, Nat.reduceAdd, Nat.reduceEqDiff, Nat.reduceLeDiff, Int32.reduceLT, Int32.reduceLE, reduceIte, true_and, and_true, true_or, or_true, not_true_eq_false, not_false_eq_true, false_imp_iff, true_imp_iff, implies_true]
    have n2 := inv_grown ne n1.1 (by have := n1.2.2.1; omega) ((hl rfl).mono n1.2.1)
    refine cx_cs1 2 0 0 (by decide) (inv1 q1 n1.1 (by have := n1.2.2.1; omega) ((hl rfl).mono n1.2.1)) fun r w2 q => ?_
    obtain ⟨rfl, ⟨no2, q2, e2⟩, k2⟩ := q
    simp (decide := true) only [BmM_join, nI_0, nI1, nI2, q2.1, EV, EW, CT, ev_o, ev_is, ev_gd, List.length_cons, List.length_nil, Nat.reduceLT, Nat.reduceAdd, Nat.reduceEqDiff, Nat.reduceLeDiff, Int32.reduceLT, Int32.reduceLE, reduceIte, true_and, and_true, true_or, or_true, not_true_eq_false, not_false_eq_true, false_imp_iff, true_imp_iff, implies_true]
    have n3 := nand_grown ne n2.1 (by have := n1.2.2.1; have := n2.2.2.1; omega) (n1.2.2.2.1.mono n2.2.1) n2.2.2.2.1
    refine cx_cs1 3 0 0 (by decide) (nand1 q2 n2.1 (by have := n1.2.2.1; have := n2.2.2.1; omega) (n1.2.2.2.1.mono n2.2.1)) fun r w3 q => ?_
    obtain ⟨rfl, ⟨no3, q3, e3⟩, k3⟩ := q
    simp (decide := true) only [BmM_join, nI_0, nI1, nI2, q3.1, EV, EW, CT, ev_o, ev_is, ev_gd, List.length_cons, List.length_nil, Nat.reduceLT, Nat.reduceAdd, Nat.reduceEqDiff, Nat.reduceLeDiff, Int32.reduceLT, Int32.reduceLE, reduceIte, true_and, and_true, true_or, or_true, not_true_eq_false, not_false_eq_true, false_imp_iff, true_imp_iff, implies_true]
    exact NQ.of k1 n1.2.1 e1 (NQ.of k2 n2.2.1 e2 ⟨rfl, ⟨no3, q3, e3⟩, k3⟩)
  · simp (decide := true) only [BmM_join, nI_0, nI1, nI2, h1, EV, EW, CT, ev_o, ev_is, ev_gd, List.length_cons, List.length_nil, Nat.reduceLT, Nat.reduceAdd, Nat.reduceEqDiff, Nat.reduceLeDiff, Int32.reduceLT, Int32.reduceLE, reduceIte, true_and, and_true, true_or, or_true, not_true_eq_false, not_false_eq_true, false_imp_iff, true_imp_iff, implies_true]
    have n1 := nand_grown ne hW (by omega) hz (hh rfl)
    refine cx_cs1 3 0 0 (by decide) (nand1 hG hW (by omega) hz) fun r w1 q => ?_
    obtain ⟨rfl, ⟨no1, q1, e1⟩, k1⟩ := q
    simp (decide := true) only [BmM_join, nI_0, nI1, nI2, q1.1, EV, EW, CT, ev_o, ev_is, ev_gd, List.length_cons, List.length_nil, Nat.reduceLT, Nat.reduceAdd, Nat.reduceEqDiff, Nat.reduceLeDiff, Int32.reduceLT, Int32.reduceLE, reduceIte, true_and, and_true, true_or, or_true, not_true_eq_false, not_false_eq_true, false_imp_iff, true_imp_iff, implies_true]
    have n2 := inv_grown ne n1.1 (by have := n1.2.2.1; omega) (hz.mono n1.2.1)
    refine cx_cs1 2 0 0 (by decide) (inv1 q1 n1.1 (by have := n1.2.2.1; omega) (hz.mono n1.2.1)) fun r w2 q => ?_
    obtain ⟨rfl, ⟨no2, q2, e2⟩, k2⟩ := q
    simp (decide := true) only [BmM_join, nI_0, nI1, nI2, q2.1, EV, EW, CT, ev_o, ev_is, ev_gd, List.length_cons, List.length_nil, Nat.reduceLT, Nat.reduceAdd, Nat.reduceEqDiff, Nat.reduceLeDiff, Int32.reduceLT, Int32.reduceLE, reduceIte, true_and, and_true, true_or, or_true, not_true_eq_false, not_false_eq_true, false_imp_iff, true_imp_iff, implies_true]
    have n3 := nand_grown ne n2.1 (by have := n1.2.2.1; have := n2.2.2.1; omega) n2.2.2.2.1 (((hl rfl).mono n1.2.1).mono n2.2.1)
    refine cx_cs1 3 0 0 (by decide) (nand1 q2 n2.1 (by have := n1.2.2.1; have := n2.2.2.1; omega) n2.2.2.2.1) fun r w3 q => ?_
    obtain ⟨rfl, ⟨no3, q3, e3⟩, k3⟩ := q
    simp (decide := true) only [BmM_join, nI_0, nI1, nI2, q3.1, EV, EW, CT, ev_o, ev_is, ev_gd, List.length_cons, List.length_nil, Nat.reduceLT, Nat.reduceAdd, Nat.reduceEqDiff, Nat.reduceLeDiff, Int32.reduceLT, Int32.reduceLE, reduceIte, true_and, and_true, true_or, or_true, not_true_eq_false, not_false_eq_true, false_imp_iff, true_imp_iff, implies_true]
    have n4 := nand_grown ne n3.1 (by have := n1.2.2.1; have := n2.2.2.1; have := n3.2.2.1; omega) ((n1.2.2.2.1.mono n2.2.1).mono n3.2.1) n3.2.2.2.1
    refine cx_cs1 3 0 0 (by decide) (nand1 q3 n3.1 (by have := n1.2.2.1; have := n2.2.2.1; have := n3.2.2.1; omega) ((n1.2.2.2.1.mono n2.2.1).mono n3.2.1)) fun r w4 q => ?_
    obtain ⟨rfl, ⟨no4, q4, e4⟩, k4⟩ := q
    simp (decide := true) only [BmM_join, nI_0, nI1, nI2, q4.1, EV, EW, CT, ev_o, ev_is, ev_gd, List.length_cons, List.length_nil, Nat.reduceLT, Nat.reduceAdd, Nat.reduceEqDiff, Nat.reduceLeDiff, Int32.reduceLT, Int32.reduceLE, reduceIte, true_and, and_true, true_or, or_true, not_true_eq_false, not_false_eq_true, false_imp_iff, true_imp_iff, implies_true]
    exact NQ.of k1 n1.2.1 e1 (NQ.of k2 n2.2.1 e2 (NQ.of k3 n3.2.1 e3 ⟨rfl, ⟨no4, q4, e4⟩, k4⟩))
