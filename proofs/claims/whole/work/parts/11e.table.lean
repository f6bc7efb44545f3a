/-! tableNode. Own work. -/
theorem an1 (d : Nat) : nI d &&& 1 = nI (d % 2) := by
  have h := nx_and d 1
  rw [Nat.and_two_pow_sub_one_eq_mod d 1] at h
  exact h
theorem an15 (d : Nat) : nI d &&& 15 = nI (d % 16) := by
  have h := nx_and d 15
  rw [Nat.and_two_pow_sub_one_eq_mod d 4] at h
  exact h
theorem sr1 {d : Nat} (h : d < 2 ^ 31) : nI d >>> (1 &&& 31) = nI (d / 2) := pk_shrN h _ 1 (by decide)
theorem sr4 {d : Nat} (h : d < 2 ^ 31) : nI d >>> (4 &&& 31) = nI (d / 16) := pk_shrN h _ 4 (by decide)
theorem sl0 : (1 : Int32) <<< (0 &&& 31) = 1 := by decide
theorem sl1 : (1 : Int32) <<< (1 &&& 31) = 2 := by decide
theorem sl2 : (1 : Int32) <<< (2 &&& 31) = 4 := by decide
theorem sl4 : (1 : Int32) <<< (4 &&& 31) = 16 := by decide
theorem eqN {a b : Nat} (ha : a < 2 ^ 31) (hb : b < 2 ^ 31) : (nI a = nI b) = (a = b) := propext (nI_eq ha hb)
theorem eqc {a c : Nat} {x : Int32} (hx : x = nI c) (ha : a < 2 ^ 31) (hc : c < 2 ^ 31) : (nI a = x) = (a = c) := by rw [hx]; exact eqN ha hc
set_option maxHeartbeats 16000000 in
theorem c_Ci_table1 {w : cx_W} {G : Gr} {row : Nat → Int32} {t : Nat} (hG : GW w G) (hW : WFG 2 3 G) (hn : G.1 + 4 ≤ 48) (h11 : w 11 = ai 3 row) (hz : isN G.1 (row 0)) (ht : t = 1 ∨ t = 2) :
    cx_MC mCi_tableNode 5 0 0 [.ref 1, .ref 11, .int 1, .int (nI t)] w 87 (GQ w (tab1 2 3 G (row 0) t)) := by
  have h1 := hG.1
  refine cx_met 120 mCi_tableNode_ok rfl ?_
  show cx_vc 120 none mCi_tableNode 5 0 0 _ _ 0 [some (.ref 1), some (.ref 11), some (.int 1), some (.int (nI t)), none, none, none, none, none, none, none] [] w (87, 0, 0)
  rcases ht with rfl | rfl
  · simp (decide := true) only [BmCi_tableNode, BmCi_isConstant, h1, h11, sl0, sl1, an1, sr1 (d := 1) (by decide), eqN (a := 1 % 2) (b := 1 / 2 % 2) (by decide) (by decide), vp_in, EV, EW, CT, ev_o, ev_is, ev_gd, List.length_cons, List.length_nil, Nat.reduceLT, Nat.reduceAdd, Nat.reduceEqDiff, Nat.reduceLeDiff, Int32.reduceLT, Int32.reduceLE, Int32.reduceSub, Int32.reduceToNatClampNeg, reduceIte, true_and, and_true, true_or, or_true, or_self, or_false, not_true_eq_false, not_false_eq_true, false_imp_iff, true_imp_iff, implies_true]
    refine cx_cs1 4 0 0 (by decide) (c_Ci_joinHalves (lo := 1) (hi := 0) (l := 0) (h := 0) hG hW hn hz (Or.inr (Or.inl ⟨rfl, rfl, rfl⟩)) (Or.inl ⟨rfl, rfl, rfl⟩)) fun r w2 q => ?_
    obtain ⟨rfl, hG2, hk2⟩ := q
    simp (decide := true) only [BmCi_tableNode, EV, EW, CT, ev_o, ev_is, ev_gd, List.length_cons, List.length_nil, Nat.reduceLT, Nat.reduceAdd, Nat.reduceEqDiff, Nat.reduceLeDiff, Int32.reduceLT, Int32.reduceLE, Int32.reduceSub, Int32.reduceToNatClampNeg, reduceIte, true_and, and_true, true_or, or_true, or_self, or_false, not_true_eq_false, not_false_eq_true, false_imp_iff, true_imp_iff, implies_true]
    exact ⟨rfl, hG2, hk2⟩
  · simp (decide := true) only [BmCi_tableNode, BmCi_isConstant, h1, h11, sl0, sl1, an1, sr1 (d := 2) (by decide), eqN (a := 2 % 2) (b := 2 / 2 % 2) (by decide) (by decide), vp_in, EV, EW, CT, ev_o, ev_is, ev_gd, List.length_cons, List.length_nil, Nat.reduceLT, Nat.reduceAdd, Nat.reduceEqDiff, Nat.reduceLeDiff, Int32.reduceLT, Int32.reduceLE, Int32.reduceSub, Int32.reduceToNatClampNeg, reduceIte, true_and, and_true, true_or, or_true, or_self, or_false, not_true_eq_false, not_false_eq_true, false_imp_iff, true_imp_iff, implies_true]
    refine cx_cs1 4 0 0 (by decide) (c_Ci_joinHalves (lo := 0) (hi := 1) (l := 0) (h := 0) hG hW hn hz (Or.inl ⟨rfl, rfl, rfl⟩) (Or.inr (Or.inl ⟨rfl, rfl, rfl⟩))) fun r w2 q => ?_
    obtain ⟨rfl, hG2, hk2⟩ := q
    simp (decide := true) only [BmCi_tableNode, EV, EW, CT, ev_o, ev_is, ev_gd, List.length_cons, List.length_nil, Nat.reduceLT, Nat.reduceAdd, Nat.reduceEqDiff, Nat.reduceLeDiff, Int32.reduceLT, Int32.reduceLE, Int32.reduceSub, Int32.reduceToNatClampNeg, reduceIte, true_and, and_true, true_or, or_true, or_self, or_false, not_true_eq_false, not_false_eq_true, false_imp_iff, true_imp_iff, implies_true]
    exact ⟨rfl, hG2, hk2⟩
