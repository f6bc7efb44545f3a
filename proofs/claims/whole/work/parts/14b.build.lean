/-! Building, the class: input. Own work. -/
/-- the class's circuit: counts of nets, inputs, latches, outputs; first and present bits; rows -/
def CW (w : cx_W) (nc ic lc oc : Nat) (ib pb : Int32) (nn nl dv on : Nat → Int32) : Prop := w 6 = oCi (nI nc) (nI ic) (nI lc) (nI oc) ib pb ∧ w 7 = ai 40 nn ∧ w 8 = ai 40 nl ∧ w 9 = ai 6 dv ∧ w 10 = ai 4 on

set_option maxHeartbeats 8000000 in
theorem c_C_input_full {w : cx_W} {G : Gr} {m : Int32} {nc ic lc oc : Nat} {ib pb : Int32} {nn nl dv on : Nat → Int32} (h0 : w 0 = oC m) (hG : GW w G) (hn : G.1 ≤ 48) (hC : CW w nc ic lc oc ib pb nn nl dv on) (hnc : nc ≤ 40) (hic : ic ≤ 6) (hf : nc = 40 ∨ ic = 6 ∨ G.1 = 48) :
    cx_MC mC_input 12 0 0 [.ref 0] w 87 (fun r w2 => r = some (.int (-2)) ∧ w2 = w) := by
  obtain ⟨h1, h2, h3, h4⟩ := hG
  obtain ⟨h6, h7, h8, h9, h10⟩ := hC
  refine cx_met 200 mC_input_ok rfl ?_
  show cx_vc 200 none mC_input 12 0 0 _ _ 0 [some (.ref 0)] [] w (87, 0, 0)
  have e1 := eqc (a := nc) (c := 40) (x := 40) rfl (by omega) (by decide)
  have e2 := eqc (a := ic) (c := 6) (x := 6) rfl (by omega) (by decide)
  have e3 := eqc (a := G.1) (c := 48) (x := 48) rfl (by omega) (by decide)
  by_cases a : nc = 40
  · have E1 := e1.trans (eq_true a)
    simp (decide := true) only [BmC_input, BSC, h0, h1, h6, E1, EV, EW, CT, ev_o, ev_is, ev_gd, List.length_cons, List.length_nil, Nat.reduceLT, Nat.reduceAdd, Nat.reduceEqDiff, Nat.reduceLeDiff, Int32.reduceLT, Int32.reduceLE, reduceIte, true_and, and_true, true_or, or_true, not_true_eq_false, not_false_eq_true, false_imp_iff, true_imp_iff, implies_true]
  · have E1 := e1.trans (eq_false a)
    by_cases b : ic = 6
    · have E2 := e2.trans (eq_true b)
      simp (decide := true) only [BmC_input, BSC, h0, h1, h6, E1, E2, EV, EW, CT, ev_o, ev_is, ev_gd, List.length_cons, List.length_nil, Nat.reduceLT, Nat.reduceAdd, Nat.reduceEqDiff, Nat.reduceLeDiff, Int32.reduceLT, Int32.reduceLE, reduceIte, true_and, and_true, true_or, or_true, not_true_eq_false, not_false_eq_true, false_imp_iff, true_imp_iff, implies_true]
    · have E2 := e2.trans (eq_false b)
      have E3 := e3.trans (eq_true (by omega))
      simp (decide := true) only [BmC_input, BSC, h0, h1, h6, E1, E2, E3, EV, EW, CT, ev_o, ev_is, ev_gd, List.length_cons, List.length_nil, Nat.reduceLT, Nat.reduceAdd, Nat.reduceEqDiff, Nat.reduceLeDiff, Int32.reduceLT, Int32.reduceLE, reduceIte, true_and, and_true, true_or, or_true, not_true_eq_false, not_false_eq_true, false_imp_iff, true_imp_iff, implies_true]
set_option maxHeartbeats 8000000 in
theorem c_C_input {w : cx_W} {G : Gr} {m : Int32} {nc ic lc oc : Nat} {ib pb : Int32} {nn nl dv on od : Nat → Int32} (h0 : w 0 = oC m) (hG : GW w G) (h5 : w 5 = ai 48 od) (hC : CW w nc ic lc oc ib pb nn nl dv on) (hnc : nc < 40) (hic : ic < 6) (hn : G.1 < 48) :
    cx_MC mC_input 12 0 0 [.ref 0] w 87 (fun r w2 => r = some (.int (nI nc)) ∧ w2 0 = oC 0 ∧ GW w2 (addN G 0 (-1) (-1)) ∧ w2 5 = ai 48 (upd od G.1 (nI ic)) ∧ CW w2 (nc + 1) (ic + 1) lc oc ib ib (upd nn nc (nI G.1)) (upd nl nc (-1)) dv on ∧ ∀ k, 8 < k → w2 k = w k) := by
  obtain ⟨h1, h2, h3, h4⟩ := hG
  obtain ⟨h6, h7, h8, h9, h10⟩ := hC
  refine cx_met 200 mC_input_ok rfl ?_
  show cx_vc 200 none mC_input 12 0 0 _ _ 0 [some (.ref 0)] [] w (87, 0, 0)
  have E1 := (eqc (a := nc) (c := 40) (x := 40) rfl (by omega) (by decide)).trans (eq_false (by omega))
  have E2 := (eqc (a := ic) (c := 6) (x := 6) rfl (by omega) (by decide)).trans (eq_false (by omega))
  have E3 := (eqc (a := G.1) (c := 48) (x := 48) rfl (by omega) (by decide)).trans (eq_false (by omega))
  have v1 : vp_in (nI G.1) 48 := nI_in hn (by decide)
  have v2 : vp_in (nI nc) 40 := nI_in hnc (by decide)
  have p1 : (nI nc < 0) = False := eq_false (nI_pos (by omega))
  simp (decide := true) only [BmC_input, BSC, h0, h1, h2, h3, h4, h5, h6, h7, h8, E1, E2, E3, v1, v2, p1, nI_clamp (n := G.1) (by omega), nI_clamp (n := nc) (by omega), nI_1, EV, EW, CT, ev_o, ev_is, ev_gd, List.length_cons, List.length_nil, Nat.reduceLT, Nat.reduceAdd, Nat.reduceEqDiff, Nat.reduceLeDiff, Int32.reduceLT, Int32.reduceLE, reduceIte, true_and, and_true, true_or, or_true, not_true_eq_false, not_false_eq_true, false_imp_iff, true_imp_iff, implies_true]
  refine ⟨⟨?_, ?_, ?_, ?_⟩, ⟨?_, ?_, ?_, ?_, ?_⟩, fun k hk => ?_⟩
  all_goals first
    | (simp only [cx_up, Nat.reduceEqDiff, reduceIte]; done)
    | (simp only [cx_up, Nat.reduceEqDiff, reduceIte]; first | rfl | exact h9 | exact h10)
    | (simp (disch := omega) only [cx_up, if_neg]; done)
