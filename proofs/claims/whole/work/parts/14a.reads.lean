/-! Reads of both sides over any state: nodes, nodeOf, part. Own work. -/
theorem vin {n N : Nat} {a : Int32} (h1 : ¬ a < 0) (h2 : ¬ nI n ≤ a) (hn : n ≤ N) (hN : N < 2 ^ 31) : vp_in a N := by
  obtain ⟨j, hj, rfl⟩ := nI_of h1
  refine nI_in ?_ hN
  have h3 : ¬ n ≤ j := fun q => h2 (nI_le q hj)
  omega
set_option maxHeartbeats 4000000 in
theorem c_C_nodes {w : cx_W} {n m : Int32} (h0 : w 0 = oC m) (h1 : w 1 = oGr n) : cx_MC mC_nodes 12 0 0 [.ref 0] w 87 (fun r w2 => r = some (.int n) ∧ w2 = w) := by
  refine cx_met 40 mC_nodes_ok rfl ?_
  show cx_vc 40 none mC_nodes 12 0 0 _ _ 0 [some (.ref 0)] [] w (87, 0, 0)
  simp (decide := true) only [BmC_nodes, BmGr_size, h0, h1, EV, EW, CT, ev_o, ev_is, ev_gd, List.length_cons, List.length_nil, Nat.reduceLT, Nat.reduceAdd, Nat.reduceEqDiff, Nat.reduceLeDiff, Int32.reduceLT, Int32.reduceLE, reduceIte, true_and, and_true, true_or, or_true, not_true_eq_false, not_false_eq_true, false_imp_iff, true_imp_iff, implies_true]
set_option maxHeartbeats 4000000 in
theorem c_M_nodes {w : cx_W} {x0 x1 x2 x3 x4 x5 x6 x7 x8 x9 : Int32} (h45 : w 45 = oM x0 x1 x2 x3 x4 x5 x6 x7 x8 x9) : cx_MC mM_nodes 12 0 0 [.ref 45] w 87 (fun r w2 => r = some (.int x3) ∧ w2 = w) := by
  refine cx_met 40 mM_nodes_ok rfl ?_
  show cx_vc 40 none mM_nodes 12 0 0 _ _ 0 [some (.ref 45)] [] w (87, 0, 0)
  simp (decide := true) only [BmM_nodes, h45, EV, EW, CT, ev_o, ev_is, ev_gd, List.length_cons, List.length_nil, Nat.reduceLT, Nat.reduceAdd, Nat.reduceEqDiff, Nat.reduceLeDiff, Int32.reduceLT, Int32.reduceLE, reduceIte, true_and, and_true, true_or, or_true, not_true_eq_false, not_false_eq_true, false_imp_iff, true_imp_iff, implies_true]
/-- what nodeOf answers -/
def nodeOfN (nc : Nat) (f : Nat → Int32) (a : Int32) : Int32 := if ¬ a < 0 ∧ ¬ nI nc ≤ a then f a.toNatClampNeg else -1
set_option maxHeartbeats 4000000 in
theorem c_C_nodeOf {w : cx_W} {nc : Nat} {m y1 y2 y3 y4 y5 : Int32} {f : Nat → Int32} (a : Int32) (hc : nc ≤ 40) (h0 : w 0 = oC m) (h6 : w 6 = oCi (nI nc) y1 y2 y3 y4 y5) (h7 : w 7 = ai 40 f) : cx_MC mC_nodeOf 12 0 0 [.ref 0, .int a] w 87 (fun r w2 => r = some (.int (nodeOfN nc f a)) ∧ w2 = w) := by
  refine cx_met 60 mC_nodeOf_ok rfl ?_
  show cx_vc 60 none mC_nodeOf 12 0 0 _ _ 0 [some (.ref 0), some (.int a)] [] w (87, 0, 0)
  simp (decide := true) only [BmC_nodeOf, BmCi_isNet, BmCi_netNode, h0, h6, h7, EV, EW, CT, ev_o, ev_is, ev_gd, List.length_cons, List.length_nil, Nat.reduceLT, Nat.reduceAdd, Nat.reduceEqDiff, Nat.reduceLeDiff, Int32.reduceLT, Int32.reduceLE, reduceIte, true_and, and_true, true_or, or_true, not_true_eq_false, not_false_eq_true, false_imp_iff, true_imp_iff, implies_true]
  unfold nodeOfN
  refine ⟨fun q => ?_, fun q => ⟨fun q2 => ?_, fun q2 => ⟨vin q q2 hc (by decide), ?_⟩⟩⟩
  · rw [if_neg (fun z => z.1 q)]
  · rw [if_neg (fun z => z.2 q2)]
  · rw [if_pos ⟨q, q2⟩]
set_option maxHeartbeats 4000000 in
theorem c_M_nodeOf {w : cx_W} {nc : Nat} {x1 x2 x3 x4 x5 x6 x7 x8 x9 : Int32} {f : Nat → Int32} (a : Int32) (hc : nc ≤ 40) (h45 : w 45 = oM (nI nc) x1 x2 x3 x4 x5 x6 x7 x8 x9) (h47 : w 47 = ai 40 f) : cx_MC mM_nodeOf 12 0 0 [.ref 45, .int a] w 87 (fun r w2 => r = some (.int (nodeOfN nc f a)) ∧ w2 = w) := by
  refine cx_met 60 mM_nodeOf_ok rfl ?_
  show cx_vc 60 none mM_nodeOf 12 0 0 _ _ 0 [some (.ref 45), some (.int a)] [] w (87, 0, 0)
  simp (decide := true) only [BmM_nodeOf, BmM_isNet, h45, h47, EV, EW, CT, ev_o, ev_is, ev_gd, List.length_cons, List.length_nil, Nat.reduceLT, Nat.reduceAdd, Nat.reduceEqDiff, Nat.reduceLeDiff, Int32.reduceLT, Int32.reduceLE, reduceIte, true_and, and_true, true_or, or_true, not_true_eq_false, not_false_eq_true, false_imp_iff, true_imp_iff, implies_true]
  unfold nodeOfN
  refine ⟨fun q => ?_, fun q => ⟨fun q2 => ?_, fun q2 => ⟨vin q q2 hc (by decide), ?_⟩⟩⟩
  · rw [if_neg (fun z => z.1 q)]
  · rw [if_neg (fun z => z.2 q2)]
  · rw [if_pos ⟨q, q2⟩]
/-- what part answers -/
def partN (G : Gr) (a b : Int32) : Int32 := if ¬ a < 0 ∧ ¬ nI G.1 ≤ a then (if b = 0 then G.2.2.1 a.toNatClampNeg else if b = 1 then G.2.2.2 a.toNatClampNeg else -1) else -1
set_option maxHeartbeats 4000000 in
theorem c_C_part {w : cx_W} {G : Gr} {m : Int32} (a b : Int32) (hc : G.1 ≤ 48) (h0 : w 0 = oC m) (hG : GW w G) : cx_MC mC_part 12 0 0 [.ref 0, .int a, .int b] w 87 (fun r w2 => r = some (.int (partN G a b)) ∧ w2 = w) := by
  obtain ⟨h1, h2, h3, h4⟩ := hG
  refine cx_met 60 mC_part_ok rfl ?_
  show cx_vc 60 none mC_part 12 0 0 _ _ 0 [some (.ref 0), some (.int a), some (.int b)] [] w (87, 0, 0)
  simp (decide := true) only [BmC_part, BmGr_isNode, BmGr_x, BmGr_y, h0, h1, h3, h4, EV, EW, CT, ev_o, ev_is, ev_gd, List.length_cons, List.length_nil, Nat.reduceLT, Nat.reduceAdd, Nat.reduceEqDiff, Nat.reduceLeDiff, Int32.reduceLT, Int32.reduceLE, reduceIte, true_and, and_true, true_or, or_true, not_true_eq_false, not_false_eq_true, false_imp_iff, true_imp_iff, implies_true]
  unfold partN
  refine ⟨fun q => ?_, fun q => ⟨fun q2 => ?_, fun q2 => ⟨fun z => ⟨vin q q2 hc (by decide), ?_⟩, fun z => ⟨fun z2 => ⟨vin q q2 hc (by decide), ?_⟩, fun z2 => ?_⟩⟩⟩⟩
  · rw [if_neg (fun z => z.1 q)]
  · rw [if_neg (fun z => z.2 q2)]
  · rw [if_pos ⟨q, q2⟩, if_pos z]
  · rw [if_pos ⟨q, q2⟩, if_neg z, if_pos z2]
  · rw [if_pos ⟨q, q2⟩, if_neg z, if_neg z2]
set_option maxHeartbeats 4000000 in
theorem c_M_part {x : List Int32} {w : cx_W} {G : Gr} {no : Nat → Int32} (a b : Int32) (hc : G.1 ≤ 48) (hG : MW x w G no) : cx_MC mM_part 12 0 0 [.ref 45, .int a, .int b] w 87 (fun r w2 => r = some (.int (partN G a b)) ∧ w2 = w) := by
  obtain ⟨h1, h2, h3, h4, h5⟩ := hG
  refine cx_met 60 mM_part_ok rfl ?_
  show cx_vc 60 none mM_part 12 0 0 _ _ 0 [some (.ref 45), some (.int a), some (.int b)] [] w (87, 0, 0)
  simp (decide := true) only [BmM_part, h1, h3, h4, EV, EW, CT, ev_o, ev_is, ev_gd, List.length_cons, List.length_nil, Nat.reduceLT, Nat.reduceAdd, Nat.reduceEqDiff, Nat.reduceLeDiff, Int32.reduceLT, Int32.reduceLE, reduceIte, true_and, and_true, true_or, or_true, not_true_eq_false, not_false_eq_true, false_imp_iff, true_imp_iff, implies_true]
  unfold partN
  refine ⟨fun q => ?_, fun q => ⟨fun q2 => ?_, fun q2 => ⟨fun z => ?_, fun z => ⟨fun z2 => ⟨fun z3 => ⟨vin q q2 hc (by decide), ?_⟩, fun z3 => ⟨vin q q2 hc (by decide), ?_⟩⟩, fun z2 => ?_⟩⟩⟩⟩
  · rw [if_neg (fun z => z.1 q)]
  · rw [if_neg (fun z => z.2 q2)]
  · rw [if_pos ⟨q, q2⟩, if_neg (fun e => absurd z (by rw [e]; decide)), if_neg (fun e => absurd z (by rw [e]; decide))]
  · rw [if_pos ⟨q, q2⟩, if_pos z3]
  · have e1 : b = 1 := by
      have h1 : 0 ≤ b.toInt := by have := Int32.le_iff_toInt_le.mp (Int32.not_lt.mp z); simpa using this
      have h2 : b.toInt ≤ 1 := by have := Int32.le_iff_toInt_le.mp z2; simpa using this
      rcases (show b.toInt = 0 ∨ b.toInt = 1 by omega) with h3 | h3
      · exact absurd (Int32.toInt_inj.mp (by rw [h3]; rfl)) z3
      · exact Int32.toInt_inj.mp (by rw [h3]; rfl)
    rw [if_pos ⟨q, q2⟩, if_neg z3, if_pos e1]
  · rw [if_pos ⟨q, q2⟩, if_neg (fun e => absurd (by rw [e]; decide : b ≤ 1) z2), if_neg (fun e => absurd (by rw [e]; decide : b ≤ 1) z2)]
