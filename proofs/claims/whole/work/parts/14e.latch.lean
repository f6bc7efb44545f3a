/-! Building, the class: latch, output, drive. Own work. -/
set_option maxHeartbeats 8000000 in
theorem c_C_latch {w : cx_W} {G : Gr} {m : Int32} {nc ic lc oc : Nat} {ib pb : Int32} {nn nl dv on od : Nat → Int32} (a : Int32) (ha : a = 0 ∨ a = 1) (h0 : w 0 = oC m) (hG : GW w G) (h5 : w 5 = ai 48 od) (hC : CW w nc ic lc oc ib pb nn nl dv on) (hnc : nc < 40) (hlc : lc < 6) (hn : G.1 < 48) :
    cx_MC mC_latch 12 0 0 [.ref 0, .int a] w 87 (fun r w2 => r = some (.int (nI nc)) ∧ w2 0 = oC 0 ∧ GW w2 (addN G 1 (-1) (-1)) ∧ w2 5 = ai 48 (upd od G.1 (nI lc)) ∧ CW w2 (nc + 1) ic (lc + 1) oc (ib ||| a <<< (nI lc &&& 31)) (ib ||| a <<< (nI lc &&& 31)) (upd nn nc (nI G.1)) (upd nl nc (nI lc)) (upd dv lc (-1)) on ∧ ∀ k, 9 < k ∧ ¬ k = 10 → w2 k = w k) := by
  have h6 := hC.1
  have p1 : (nI nc < 0) = False := eq_false (nI_pos (by omega))
  have a2 : (a = 0) = False → (a = 1) = True := fun q => eq_true (ha.resolve_left (of_eq_false q))
  refine cx_met 60 mC_latch_ok rfl ?_
  show cx_vc 60 none mC_latch 12 0 0 _ _ 0 [some (.ref 0), some (.int a)] [] w (87, 0, 0)
  have fin : ∀ f, cx_CS 12 0 0 50 [Value.ref 6, Value.int a] w (87, 0, 0) (cx_vr2 (f + 40) none mC_latch 12 0 0 (cx_OK none mC_latch 12 0 0 fun r w2 _ => r = some (.int (nI nc)) ∧ w2 0 = oC 0 ∧ GW w2 (addN G 1 (-1) (-1)) ∧ w2 5 = ai 48 (upd od G.1 (nI lc)) ∧ CW w2 (nc + 1) ic (lc + 1) oc (ib ||| a <<< (nI lc &&& 31)) (ib ||| a <<< (nI lc &&& 31)) (upd nn nc (nI G.1)) (upd nl nc (nI lc)) (upd dv lc (-1)) on ∧ ∀ k, 9 < k ∧ ¬ k = 10 → w2 k = w k) (fun r w2 _ => r = some (.int (nI nc)) ∧ w2 0 = oC 0 ∧ GW w2 (addN G 1 (-1) (-1)) ∧ w2 5 = ai 48 (upd od G.1 (nI lc)) ∧ CW w2 (nc + 1) ic (lc + 1) oc (ib ||| a <<< (nI lc &&& 31)) (ib ||| a <<< (nI lc &&& 31)) (upd nn nc (nI G.1)) (upd nl nc (nI lc)) (upd dv lc (-1)) on ∧ ∀ k, 9 < k ∧ ¬ k = 10 → w2 k = w k) 20 [some (Value.ref 0), some (Value.int a)] [Value.ref 0]) := by
    intro f
    refine cx_cs1 11 0 0 (by decide) (c_Ci_addLatch a hG h5 hC hnc hlc hn) fun r w2 q => ?_
    obtain ⟨rfl, g0, ⟨g1, g2, g3, g4⟩, g5, ⟨g6, g7, g8, g9, g10⟩, gk⟩ := q
    rw [h0] at g0
    simp (decide := true) only [BmC_latch, BSC, g0, g6, p1, EV, EW, CT, ev_o, ev_is, ev_gd, List.length_cons, List.length_nil, Nat.reduceLT, Nat.reduceAdd, Nat.reduceEqDiff, Nat.reduceLeDiff, Int32.reduceLT, Int32.reduceLE, reduceIte, true_and, and_true, true_or, or_true, not_true_eq_false, not_false_eq_true, false_imp_iff, true_imp_iff, implies_true]
    refine ⟨⟨?_, ?_, ?_, ?_⟩, ?_, ⟨?_, ?_, ?_, ?_, ?_⟩, fun k hk => ?_⟩
    · simp only [cx_up, Nat.reduceEqDiff, reduceIte]; exact g1
    · simp only [cx_up, Nat.reduceEqDiff, reduceIte]; exact g2
    · simp only [cx_up, Nat.reduceEqDiff, reduceIte]; exact g3
    · simp only [cx_up, Nat.reduceEqDiff, reduceIte]; exact g4
    · exact g5
    · simp only [cx_up, reduceIte]
    · simp only [cx_up, Nat.reduceEqDiff, reduceIte]; exact g7
    · simp only [cx_up, Nat.reduceEqDiff, reduceIte]; exact g8
    · simp only [cx_up, Nat.reduceEqDiff, reduceIte]; exact g9
    · simp only [cx_up, Nat.reduceEqDiff, reduceIte]; exact g10
    · simp (disch := omega) only [cx_up, if_neg]
      exact gk k hk.1
  simp (decide := true) only [BmC_latch, BSC, h0, h6, EV, EW, CT, ev_o, ev_is, ev_gd, List.length_cons, List.length_nil, Nat.reduceLT, Nat.reduceAdd, Nat.reduceEqDiff, Nat.reduceLeDiff, Int32.reduceLT, Int32.reduceLE, reduceIte, true_and, and_true, true_or, or_true, not_true_eq_false, not_false_eq_true, false_imp_iff, true_imp_iff, implies_true]
  refine ⟨fun q => fin _, fun q => ⟨fun q2 => fin _, fun q2 => ?_⟩⟩
  exact (ha.elim q q2).elim
