/-! Building, the class: output and drive. Own work. -/
/-- a number of a net -/
def isNet (nc : Nat) (a : Int32) : Prop := ¬ a < 0 ∧ ¬ nI nc ≤ a
theorem isNet.lt {nc : Nat} {a : Int32} (h : isNet nc a) (hn : nc ≤ 40) : a.toNatClampNeg < nc ∧ a = nI a.toNatClampNeg := by
  obtain ⟨j, hj, rfl⟩ := nI_of h.1
  have h3 : ¬ nc ≤ j := fun q => h.2 (nI_le q hj)
  rw [nI_clamp (by omega)]
  exact ⟨by omega, rfl⟩
set_option maxHeartbeats 8000000 in
theorem c_C_output_bad {w : cx_W} {m : Int32} {nc ic lc oc : Nat} {ib pb : Int32} {nn nl dv on : Nat → Int32} (a : Int32) (ha : ¬ isNet nc a) (h0 : w 0 = oC m) (hC : CW w nc ic lc oc ib pb nn nl dv on) : cx_MC mC_output 12 0 0 [.ref 0, .int a] w 87 (fun r w2 => r = some (.int (-1)) ∧ w2 = w) := by
  obtain ⟨h6, h7, h8, h9, h10⟩ := hC
  refine cx_met 100 mC_output_ok rfl ?_
  show cx_vc 100 none mC_output 12 0 0 _ _ 0 [some (.ref 0), some (.int a)] [] w (87, 0, 0)
  by_cases a1 : a < 0
  · simp (decide := true) only [BmC_output, BSC, h0, h6, a1, EV, EW, CT, ev_o, ev_is, ev_gd, List.length_cons, List.length_nil, Nat.reduceLT, Nat.reduceAdd, Nat.reduceEqDiff, Nat.reduceLeDiff, Int32.reduceLT, Int32.reduceLE, reduceIte, true_and, and_true, true_or, or_true, not_true_eq_false, not_false_eq_true, false_imp_iff, true_imp_iff, implies_true]
  · have a2 : nI nc ≤ a := Decidable.byContradiction fun q => ha ⟨a1, q⟩
    simp (decide := true) only [BmC_output, BSC, h0, h6, a1, a2, EV, EW, CT, ev_o, ev_is, ev_gd, List.length_cons, List.length_nil, Nat.reduceLT, Nat.reduceAdd, Nat.reduceEqDiff, Nat.reduceLeDiff, Int32.reduceLT, Int32.reduceLE, reduceIte, true_and, and_true, true_or, or_true, not_true_eq_false, not_false_eq_true, false_imp_iff, true_imp_iff, implies_true]
set_option maxHeartbeats 8000000 in
theorem c_C_output_full {w : cx_W} {m : Int32} {nc ic lc : Nat} {ib pb : Int32} {nn nl dv on : Nat → Int32} (a : Int32) (ha : isNet nc a) (h0 : w 0 = oC m) (hC : CW w nc ic lc 4 ib pb nn nl dv on) : cx_MC mC_output 12 0 0 [.ref 0, .int a] w 87 (fun r w2 => r = some (.int (-2)) ∧ w2 = w) := by
  obtain ⟨h6, h7, h8, h9, h10⟩ := hC
  obtain ⟨a1, a2⟩ := ha
  have e : nI 4 = 4 := rfl
  refine cx_met 100 mC_output_ok rfl ?_
  show cx_vc 100 none mC_output 12 0 0 _ _ 0 [some (.ref 0), some (.int a)] [] w (87, 0, 0)
  simp (decide := true) only [BmC_output, BSC, h0, h6, a1, a2, e, EV, EW, CT, ev_o, ev_is, ev_gd, List.length_cons, List.length_nil, Nat.reduceLT, Nat.reduceAdd, Nat.reduceEqDiff, Nat.reduceLeDiff, Int32.reduceLT, Int32.reduceLE, reduceIte, true_and, and_true, true_or, or_true, not_true_eq_false, not_false_eq_true, false_imp_iff, true_imp_iff, implies_true]
set_option maxHeartbeats 8000000 in
theorem c_C_output {w : cx_W} {m : Int32} {nc ic lc oc : Nat} {ib pb : Int32} {nn nl dv on : Nat → Int32} (a : Int32) (ha : isNet nc a) (hoc : oc < 4) (h0 : w 0 = oC m) (hC : CW w nc ic lc oc ib pb nn nl dv on) : cx_MC mC_output 12 0 0 [.ref 0, .int a] w 87 (fun r w2 => r = some (.int (nI oc)) ∧ w2 0 = oC 0 ∧ CW w2 nc ic lc (oc + 1) ib ib nn nl dv (upd on oc a) ∧ ∀ k, ¬ k = 0 ∧ ¬ k = 6 ∧ ¬ k = 10 → w2 k = w k) := by
  obtain ⟨h6, h7, h8, h9, h10⟩ := hC
  obtain ⟨a1, a2⟩ := ha
  have E1 := (eqc (a := oc) (c := 4) (x := 4) rfl (by omega) (by decide)).trans (eq_false (by omega))
  have v1 : vp_in (nI oc) 4 := nI_in hoc (by decide)
  have p1 : (nI oc < 0) = False := eq_false (nI_pos (by omega))
  refine cx_met 100 mC_output_ok rfl ?_
  show cx_vc 100 none mC_output 12 0 0 _ _ 0 [some (.ref 0), some (.int a)] [] w (87, 0, 0)
  simp (decide := true) only [BmC_output, BSC, h0, h6, h10, a1, a2, E1, v1, p1, nI_clamp (n := oc) (by omega), nI_1, EV, EW, CT, ev_o, ev_is, ev_gd, List.length_cons, List.length_nil, Nat.reduceLT, Nat.reduceAdd, Nat.reduceEqDiff, Nat.reduceLeDiff, Int32.reduceLT, Int32.reduceLE, reduceIte, true_and, and_true, true_or, or_true, not_true_eq_false, not_false_eq_true, false_imp_iff, true_imp_iff, implies_true]
  refine ⟨⟨?_, ?_, ?_, ?_, ?_⟩, fun k hk => ?_⟩
  all_goals first
    | (simp only [cx_up, Nat.reduceEqDiff, reduceIte]; done)
    | (simp only [cx_up, Nat.reduceEqDiff, reduceIte]; first | rfl | exact h7 | exact h8 | exact h9)
    | (simp (disch := omega) only [cx_up, if_neg]; done)
