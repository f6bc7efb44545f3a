/-! Cells, both sides. Own work. -/
def cOK (p a d : Int32) : Prop := pat p = true ∧ ¬ a < 1 ∧ ¬ 1000 < a ∧ ¬ d < 0 ∧ ¬ 1000 < d
def LW (w : cx_W) (cc : Nat) (pa ar dl pn nd tb : Nat → Int32) : Prop := w 13 = oLi (nI cc) ∧ w 14 = ai 8 pa ∧ w 15 = ai 8 ar ∧ w 16 = ai 8 dl ∧ w 17 = ai 8 pn ∧ w 18 = ai 8 nd ∧ w 19 = ai 8 tb
theorem pat_q {p : Int32} (h : pat p = true) : ∃ q : Nat, q ∈ pats ∧ p = nI q := by
  unfold pat at h
  rw [Bool.and_eq_true] at h
  have ⟨h1, h2, h3⟩ := of_decide_eq_true h.1
  refine ⟨p.toInt.toNat, pats_mem (by omega) (by omega) (by omega) h.2, ?_⟩
  have : p.toInt = (p.toInt.toNat : Int) := by omega
  apply Int32.toInt_inj.mp
  rw [nI_toInt (by omega)]
  exact this
set_option maxHeartbeats 4000000 in
theorem c_Li_addCell_bad {w : cx_W} (p a d : Int32) (hb : ¬ cOK p a d) : cx_MC mLi_addCell 11 0 0 [.ref 13, .int p, .int a, .int d] w 87 (fun r w2 => r = some (.int (-1)) ∧ w2 = w) := by
  refine cx_met 300 mLi_addCell_ok rfl ?_
  show cx_vc 300 none mLi_addCell 11 0 0 _ _ 0 [some (.ref 13), some (.int p), some (.int a), some (.int d)] [] w (87, 0, 0)
  simp (decide := true) only [BmLi_addCell, EV, EW, CT, ev_o, ev_is, ev_gd, List.length_cons, List.length_nil, Nat.reduceLT, Nat.reduceAdd, Nat.reduceEqDiff, Nat.reduceLeDiff, Int32.reduceLT, Int32.reduceLE, reduceIte, true_and, and_true, true_or, or_true, not_true_eq_false, not_false_eq_true, false_imp_iff, true_imp_iff, implies_true]
  refine cx_cs1 10 0 0 (by decide) (c_Li_isPattern p (dd := 9)) fun r w2 h2 => ?_
  obtain ⟨rfl, rfl⟩ := h2
  by_cases hp : pat p = true
  · rw [if_pos hp]
    by_cases q1 : a < 1
    · simp (decide := true) only [BmLi_addCell, q1, EV, EW, CT, ev_o, ev_is, ev_gd, List.length_cons, List.length_nil, Nat.reduceLT, Nat.reduceAdd, Nat.reduceEqDiff, Nat.reduceLeDiff, Int32.reduceLT, Int32.reduceLE, reduceIte, true_and, and_true, true_or, or_true, not_true_eq_false, not_false_eq_true, false_imp_iff, true_imp_iff, implies_true]
    · by_cases q2 : 1000 < a
      · simp (decide := true) only [BmLi_addCell, q1, q2, EV, EW, CT, ev_o, ev_is, ev_gd, List.length_cons, List.length_nil, Nat.reduceLT, Nat.reduceAdd, Nat.reduceEqDiff, Nat.reduceLeDiff, Int32.reduceLT, Int32.reduceLE, reduceIte, true_and, and_true, true_or, or_true, not_true_eq_false, not_false_eq_true, false_imp_iff, true_imp_iff, implies_true]
      · by_cases q3 : d < 0
        · simp (decide := true) only [BmLi_addCell, q1, q2, q3, EV, EW, CT, ev_o, ev_is, ev_gd, List.length_cons, List.length_nil, Nat.reduceLT, Nat.reduceAdd, Nat.reduceEqDiff, Nat.reduceLeDiff, Int32.reduceLT, Int32.reduceLE, reduceIte, true_and, and_true, true_or, or_true, not_true_eq_false, not_false_eq_true, false_imp_iff, true_imp_iff, implies_true]
        · have q4 : ¬ d ≤ 1000 := fun q => hb ⟨hp, q1, q2, q3, Int32.not_lt.mpr q⟩
          simp (decide := true) only [BmLi_addCell, q1, q2, q3, q4, EV, EW, CT, ev_o, ev_is, ev_gd, List.length_cons, List.length_nil, Nat.reduceLT, Nat.reduceAdd, Nat.reduceEqDiff, Nat.reduceLeDiff, Int32.reduceLT, Int32.reduceLE, reduceIte, true_and, and_true, true_or, or_true, not_true_eq_false, not_false_eq_true, false_imp_iff, true_imp_iff, implies_true]
  · rw [if_neg hp]
    simp (decide := true) only [BmLi_addCell, EV, EW, CT, ev_o, ev_is, ev_gd, List.length_cons, List.length_nil, Nat.reduceLT, Nat.reduceAdd, Nat.reduceEqDiff, Nat.reduceLeDiff, Int32.reduceLT, Int32.reduceLE, reduceIte, true_and, and_true, true_or, or_true, not_true_eq_false, not_false_eq_true, false_imp_iff, true_imp_iff, implies_true]
set_option maxHeartbeats 4000000 in
theorem c_Li_addCell_full {w : cx_W} (p a d : Int32) (hb : cOK p a d) (h13 : w 13 = oLi (nI 8)) : cx_MC mLi_addCell 11 0 0 [.ref 13, .int p, .int a, .int d] w 87 (fun r w2 => r = some (.int (-2)) ∧ w2 = w) := by
  obtain ⟨hp, q1, q2, q3, q4⟩ := hb
  have q5 : d ≤ 1000 := Int32.not_lt.mp q4
  have E : (nI 8 = 8) = True := eq_true rfl
  refine cx_met 300 mLi_addCell_ok rfl ?_
  show cx_vc 300 none mLi_addCell 11 0 0 _ _ 0 [some (.ref 13), some (.int p), some (.int a), some (.int d)] [] w (87, 0, 0)
  simp (decide := true) only [BmLi_addCell, EV, EW, CT, ev_o, ev_is, ev_gd, List.length_cons, List.length_nil, Nat.reduceLT, Nat.reduceAdd, Nat.reduceEqDiff, Nat.reduceLeDiff, Int32.reduceLT, Int32.reduceLE, reduceIte, true_and, and_true, true_or, or_true, not_true_eq_false, not_false_eq_true, false_imp_iff, true_imp_iff, implies_true]
  refine cx_cs1 10 0 0 (by decide) (c_Li_isPattern p (dd := 9)) fun r w2 h2 => ?_
  obtain ⟨rfl, rfl⟩ := h2
  rw [if_pos hp]
  simp (decide := true) only [BmLi_addCell, q1, q2, q3, q5, h13, E, EV, EW, CT, ev_o, ev_is, ev_gd, List.length_cons, List.length_nil, Nat.reduceLT, Nat.reduceAdd, Nat.reduceEqDiff, Nat.reduceLeDiff, Int32.reduceLT, Int32.reduceLE, reduceIte, true_and, and_true, true_or, or_true, not_true_eq_false, not_false_eq_true, false_imp_iff, true_imp_iff, implies_true]
set_option maxHeartbeats 4000000 in
theorem c_Li_addCell {w : cx_W} {q cc : Nat} {pa ar dl pn nd tb : Nat → Int32} (a d : Int32) (hq : q ∈ pats) (hb : cOK (nI q) a d) (hL : LW w cc pa ar dl pn nd tb) (hc : cc < 8) : cx_MC mLi_addCell 11 0 0 [.ref 13, .int (nI q), .int a, .int d] w 87 (fun r w2 => r = some (.int (nI cc)) ∧ LW w2 (cc + 1) (upd pa cc (nI q)) (upd ar cc a) (upd dl cc d) (upd pn cc (nI (pinsP q))) (upd nd cc (nI (nandsP q))) (upd tb cc (nI (tabP q (2 ^ pinsP q)))) ∧ ∀ k, k < 13 ∨ 19 < k → w2 k = w k) := by
  obtain ⟨hp, q1, q2, q3, q4⟩ := hb
  obtain ⟨h13, h14, h15, h16, h17, h18, h19⟩ := hL
  have hq2 := pats_lt hq
  have q5 : d ≤ 1000 := Int32.not_lt.mp q4
  have E := (eqc (a := cc) (c := 8) (x := 8) rfl (by omega) (by decide)).trans (eq_false (by omega))
  have v1 : vp_in (nI cc) 8 := nI_in hc (by decide)
  refine cx_met 300 mLi_addCell_ok rfl ?_
  show cx_vc 300 none mLi_addCell 11 0 0 _ _ 0 [some (.ref 13), some (.int (nI q)), some (.int a), some (.int d)] [] w (87, 0, 0)
  simp (decide := true) only [BmLi_addCell, EV, EW, CT, ev_o, ev_is, ev_gd, List.length_cons, List.length_nil, Nat.reduceLT, Nat.reduceAdd, Nat.reduceEqDiff, Nat.reduceLeDiff, Int32.reduceLT, Int32.reduceLE, reduceIte, true_and, and_true, true_or, or_true, not_true_eq_false, not_false_eq_true, false_imp_iff, true_imp_iff, implies_true]
  refine cx_cs1 10 0 0 (by decide) (c_Li_isPattern (nI q) (dd := 9)) fun r w2 h2 => ?_
  obtain ⟨rfl, rfl⟩ := h2
  rw [if_pos hp]
  simp (decide := true) only [BmLi_addCell, q1, q2, q3, q5, h13, h14, h15, h16, h17, E, v1, nI_clamp (n := cc) (by omega), EV, EW, CT, ev_o, ev_is, ev_gd, List.length_cons, List.length_nil, Nat.reduceLT, Nat.reduceAdd, Nat.reduceEqDiff, Nat.reduceLeDiff, Int32.reduceLT, Int32.reduceLE, reduceIte, true_and, and_true, true_or, or_true, not_true_eq_false, not_false_eq_true, false_imp_iff, true_imp_iff, implies_true]
  refine cx_cs1 10 0 0 (by decide) (c_Li_countDigits (q := q) (dg := 1) (dd := 9) rfl hq2 (by decide)) fun r w3 h3 => ?_
  obtain ⟨rfl, rfl⟩ := h3
  simp (decide := true) only [BmLi_addCell, h13, h17, h18, v1, nI_clamp (n := cc) (by omega), EV, EW, CT, ev_o, ev_is, ev_gd, List.length_cons, List.length_nil, Nat.reduceLT, Nat.reduceAdd, Nat.reduceEqDiff, Nat.reduceLeDiff, Int32.reduceLT, Int32.reduceLE, reduceIte, true_and, and_true, true_or, or_true, not_true_eq_false, not_false_eq_true, false_imp_iff, true_imp_iff, implies_true]
  refine cx_cs1 10 0 0 (by decide) (c_Li_countDigits (q := q) (dg := 3) (dd := 9) rfl hq2 (by decide)) fun r w3 h3 => ?_
  obtain ⟨rfl, rfl⟩ := h3
  simp (decide := true) only [BmLi_addCell, h13, h17, h18, h19, v1, nI_clamp (n := cc) (by omega), pk_us, EV, EW, CT, ev_o, ev_is, ev_gd, List.length_cons, List.length_nil, Nat.reduceLT, Nat.reduceAdd, Nat.reduceEqDiff, Nat.reduceLeDiff, Int32.reduceLT, Int32.reduceLE, reduceIte, true_and, and_true, true_or, or_true, not_true_eq_false, not_false_eq_true, false_imp_iff, true_imp_iff, implies_true]
  refine cx_cs1 10 0 0 (by decide) (c_Li_tableOf (dd := 8) hq) fun r w3 h3 => ?_
  obtain ⟨rfl, rfl⟩ := h3
  simp (decide := true) only [BmLi_addCell, h13, h19, v1, nI_clamp (n := cc) (by omega), nI_1, EV, EW, CT, ev_o, ev_is, ev_gd, List.length_cons, List.length_nil, Nat.reduceLT, Nat.reduceAdd, Nat.reduceEqDiff, Nat.reduceLeDiff, Int32.reduceLT, Int32.reduceLE, reduceIte, true_and, and_true, true_or, or_true, not_true_eq_false, not_false_eq_true, false_imp_iff, true_imp_iff, implies_true]
  refine ⟨⟨?_, ?_, ?_, ?_, ?_, ?_, ?_⟩, fun k hk => ?_⟩
  · simp only [cx_up, Nat.reduceEqDiff, reduceIte]
  · simp only [cx_up, Nat.reduceEqDiff, reduceIte]
  · simp only [cx_up, Nat.reduceEqDiff, reduceIte]
  · simp only [cx_up, Nat.reduceEqDiff, reduceIte]
  · simp only [cx_up, Nat.reduceEqDiff, reduceIte]; rfl
  · simp only [cx_up, Nat.reduceEqDiff, reduceIte]; rfl
  · simp only [cx_up, Nat.reduceEqDiff, reduceIte]
  · simp (disch := omega) only [cx_up, if_neg]
set_option maxHeartbeats 4000000 in
theorem c_C_cell_bad {w : cx_W} {m x : Int32} (p a d : Int32) (hb : ¬ cOK p a d) (h0 : w 0 = oC m) (h13 : w 13 = oLi x) : cx_MC mC_cell 12 0 0 [.ref 0, .int p, .int a, .int d] w 87 (fun r w2 => r = some (.int (-1)) ∧ w2 = w) := by
  refine cx_met 300 mC_cell_ok rfl ?_
  show cx_vc 300 none mC_cell 12 0 0 _ _ 0 [some (.ref 0), some (.int p), some (.int a), some (.int d)] [] w (87, 0, 0)
  simp (decide := true) only [BmC_cell, h0, h13, EV, EW, CT, ev_o, ev_is, ev_gd, List.length_cons, List.length_nil, Nat.reduceLT, Nat.reduceAdd, Nat.reduceEqDiff, Nat.reduceLeDiff, Int32.reduceLT, Int32.reduceLE, reduceIte, true_and, and_true, true_or, or_true, not_true_eq_false, not_false_eq_true, false_imp_iff, true_imp_iff, implies_true]
  refine cx_cs1 11 0 0 (by decide) (c_Li_addCell_bad p a d hb) fun r w2 h2 => ?_
  obtain ⟨rfl, rfl⟩ := h2
  simp (decide := true) only [BmC_cell, BmC_afterAdding, h0, EV, EW, CT, ev_o, ev_is, ev_gd, List.length_cons, List.length_nil, Nat.reduceLT, Nat.reduceAdd, Nat.reduceEqDiff, Nat.reduceLeDiff, Int32.reduceLT, Int32.reduceLE, reduceIte, true_and, and_true, true_or, or_true, not_true_eq_false, not_false_eq_true, false_imp_iff, true_imp_iff, implies_true]
set_option maxHeartbeats 4000000 in
theorem c_C_cell_full {w : cx_W} {m : Int32} (p a d : Int32) (hb : cOK p a d) (h0 : w 0 = oC m) (h13 : w 13 = oLi (nI 8)) : cx_MC mC_cell 12 0 0 [.ref 0, .int p, .int a, .int d] w 87 (fun r w2 => r = some (.int (-2)) ∧ w2 = w) := by
  refine cx_met 300 mC_cell_ok rfl ?_
  show cx_vc 300 none mC_cell 12 0 0 _ _ 0 [some (.ref 0), some (.int p), some (.int a), some (.int d)] [] w (87, 0, 0)
  simp (decide := true) only [BmC_cell, h0, h13, EV, EW, CT, ev_o, ev_is, ev_gd, List.length_cons, List.length_nil, Nat.reduceLT, Nat.reduceAdd, Nat.reduceEqDiff, Nat.reduceLeDiff, Int32.reduceLT, Int32.reduceLE, reduceIte, true_and, and_true, true_or, or_true, not_true_eq_false, not_false_eq_true, false_imp_iff, true_imp_iff, implies_true]
  refine cx_cs1 11 0 0 (by decide) (c_Li_addCell_full p a d hb h13) fun r w2 h2 => ?_
  obtain ⟨rfl, rfl⟩ := h2
  simp (decide := true) only [BmC_cell, BmC_afterAdding, h0, EV, EW, CT, ev_o, ev_is, ev_gd, List.length_cons, List.length_nil, Nat.reduceLT, Nat.reduceAdd, Nat.reduceEqDiff, Nat.reduceLeDiff, Int32.reduceLT, Int32.reduceLE, reduceIte, true_and, and_true, true_or, or_true, not_true_eq_false, not_false_eq_true, false_imp_iff, true_imp_iff, implies_true]
set_option maxHeartbeats 4000000 in
theorem c_C_cell {w : cx_W} {m : Int32} {q cc nc ic lc oc : Nat} {ib pb : Int32} {nn nl dv on pa ar dl pn nd tb : Nat → Int32} (a d : Int32) (hq : q ∈ pats) (hb : cOK (nI q) a d) (h0 : w 0 = oC m) (hL : LW w cc pa ar dl pn nd tb) (hc : cc < 8) (hC : CW w nc ic lc oc ib pb nn nl dv on) : cx_MC mC_cell 12 0 0 [.ref 0, .int (nI q), .int a, .int d] w 87 (fun r w2 => r = some (.int (nI cc)) ∧ w2 0 = oC 0 ∧ LW w2 (cc + 1) (upd pa cc (nI q)) (upd ar cc a) (upd dl cc d) (upd pn cc (nI (pinsP q))) (upd nd cc (nI (nandsP q))) (upd tb cc (nI (tabP q (2 ^ pinsP q)))) ∧ CW w2 nc ic lc oc ib ib nn nl dv on ∧ ∀ k, (0 < k ∧ k < 6) ∨ (10 < k ∧ k < 13) ∨ 19 < k → w2 k = w k) := by
  obtain ⟨h6, h7, h8, h9, h10⟩ := hC
  have h13 := hL.1
  refine cx_met 300 mC_cell_ok rfl ?_
  show cx_vc 300 none mC_cell 12 0 0 _ _ 0 [some (.ref 0), some (.int (nI q)), some (.int a), some (.int d)] [] w (87, 0, 0)
  simp (decide := true) only [BmC_cell, h0, h13, EV, EW, CT, ev_o, ev_is, ev_gd, List.length_cons, List.length_nil, Nat.reduceLT, Nat.reduceAdd, Nat.reduceEqDiff, Nat.reduceLeDiff, Int32.reduceLT, Int32.reduceLE, reduceIte, true_and, and_true, true_or, or_true, not_true_eq_false, not_false_eq_true, false_imp_iff, true_imp_iff, implies_true]
  refine cx_cs1 11 0 0 (by decide) (c_Li_addCell a d hq hb hL hc) fun r w2 h2 => ?_
  obtain ⟨rfl, ⟨g13, g14, g15, g16, g17, g18, g19⟩, gk⟩ := h2
  have k0 : w2 0 = oC m := (gk 0 (by omega)).trans h0
  have k6 : w2 6 = oCi (nI nc) (nI ic) (nI lc) (nI oc) ib pb := (gk 6 (by omega)).trans h6
  have p1 : (nI cc < 0) = False := eq_false (nI_pos (by omega))
  simp (decide := true) only [BmC_cell, BmC_afterAdding, BmCi_restart, k0, k6, p1, EV, EW, CT, ev_o, ev_is, ev_gd, List.length_cons, List.length_nil, Nat.reduceLT, Nat.reduceAdd, Nat.reduceEqDiff, Nat.reduceLeDiff, Int32.reduceLT, Int32.reduceLE, reduceIte, true_and, and_true, true_or, or_true, not_true_eq_false, not_false_eq_true, false_imp_iff, true_imp_iff, implies_true]
  refine ⟨⟨?_, ?_, ?_, ?_, ?_, ?_, ?_⟩, ⟨?_, ?_, ?_, ?_, ?_⟩, fun k hk => ?_⟩
  · simp only [cx_up, Nat.reduceEqDiff, reduceIte]; exact g13
  · simp only [cx_up, Nat.reduceEqDiff, reduceIte]; exact g14
  · simp only [cx_up, Nat.reduceEqDiff, reduceIte]; exact g15
  · simp only [cx_up, Nat.reduceEqDiff, reduceIte]; exact g16
  · simp only [cx_up, Nat.reduceEqDiff, reduceIte]; exact g17
  · simp only [cx_up, Nat.reduceEqDiff, reduceIte]; exact g18
  · simp only [cx_up, Nat.reduceEqDiff, reduceIte]; exact g19
  · simp only [cx_up, Nat.reduceEqDiff, reduceIte]
  · simp only [cx_up, Nat.reduceEqDiff, reduceIte]; exact (gk 7 (by omega)).trans h7
  · simp only [cx_up, Nat.reduceEqDiff, reduceIte]; exact (gk 8 (by omega)).trans h8
  · simp only [cx_up, Nat.reduceEqDiff, reduceIte]; exact (gk 9 (by omega)).trans h9
  · simp only [cx_up, Nat.reduceEqDiff, reduceIte]; exact (gk 10 (by omega)).trans h10
  · simp (disch := omega) only [cx_up, if_neg]
    exact gk k (by omega)
set_option maxHeartbeats 4000000 in
theorem c_M_cell_bad {w : cx_W} (p a d : Int32) (hb : ¬ cOK p a d) (hm : cx_ci (w 45) = some 8) : cx_MC mM_cell 12 0 0 [.ref 45, .int p, .int a, .int d] w 87 (fun r w2 => r = some (.int (-1)) ∧ w2 = w) := by
  refine cx_met 300 mM_cell_ok rfl ?_
  show cx_vc 300 none mM_cell 12 0 0 _ _ 0 [some (.ref 45), some (.int p), some (.int a), some (.int d)] [] w (87, 0, 0)
  simp (decide := true) only [BmM_cell, EV, EW, CT, ev_o, ev_is, ev_gd, List.length_cons, List.length_nil, Nat.reduceLT, Nat.reduceAdd, Nat.reduceEqDiff, Nat.reduceLeDiff, Int32.reduceLT, Int32.reduceLE, reduceIte, true_and, and_true, true_or, or_true, not_true_eq_false, not_false_eq_true, false_imp_iff, true_imp_iff, implies_true]
  refine cx_cs1 10 0 0 (by decide) (c_M_isPattern p) fun r w2 h2 => ?_
  obtain ⟨rfl, rfl⟩ := h2
  by_cases hp : pat p = true
  · rw [if_pos hp]
    by_cases q1 : a < 1
    · simp (decide := true) only [BmM_cell, q1, EV, EW, CT, ev_o, ev_is, ev_gd, List.length_cons, List.length_nil, Nat.reduceLT, Nat.reduceAdd, Nat.reduceEqDiff, Nat.reduceLeDiff, Int32.reduceLT, Int32.reduceLE, reduceIte, true_and, and_true, true_or, or_true, not_true_eq_false, not_false_eq_true, false_imp_iff, true_imp_iff, implies_true]
    · by_cases q2 : 1000 < a
      · simp (decide := true) only [BmM_cell, q1, q2, EV, EW, CT, ev_o, ev_is, ev_gd, List.length_cons, List.length_nil, Nat.reduceLT, Nat.reduceAdd, Nat.reduceEqDiff, Nat.reduceLeDiff, Int32.reduceLT, Int32.reduceLE, reduceIte, true_and, and_true, true_or, or_true, not_true_eq_false, not_false_eq_true, false_imp_iff, true_imp_iff, implies_true]
      · by_cases q3 : d < 0
        · simp (decide := true) only [BmM_cell, q1, q2, q3, EV, EW, CT, ev_o, ev_is, ev_gd, List.length_cons, List.length_nil, Nat.reduceLT, Nat.reduceAdd, Nat.reduceEqDiff, Nat.reduceLeDiff, Int32.reduceLT, Int32.reduceLE, reduceIte, true_and, and_true, true_or, or_true, not_true_eq_false, not_false_eq_true, false_imp_iff, true_imp_iff, implies_true]
        · have q4 : ¬ d ≤ 1000 := fun q => hb ⟨hp, q1, q2, q3, Int32.not_lt.mpr q⟩
          simp (decide := true) only [BmM_cell, q1, q2, q3, q4, EV, EW, CT, ev_o, ev_is, ev_gd, List.length_cons, List.length_nil, Nat.reduceLT, Nat.reduceAdd, Nat.reduceEqDiff, Nat.reduceLeDiff, Int32.reduceLT, Int32.reduceLE, reduceIte, true_and, and_true, true_or, or_true, not_true_eq_false, not_false_eq_true, false_imp_iff, true_imp_iff, implies_true]
  · rw [if_neg hp]
    simp (decide := true) only [BmM_cell, EV, EW, CT, ev_o, ev_is, ev_gd, List.length_cons, List.length_nil, Nat.reduceLT, Nat.reduceAdd, Nat.reduceEqDiff, Nat.reduceLeDiff, Int32.reduceLT, Int32.reduceLE, reduceIte, true_and, and_true, true_or, or_true, not_true_eq_false, not_false_eq_true, false_imp_iff, true_imp_iff, implies_true]
set_option maxHeartbeats 4000000 in
theorem c_M_cell_full {w : cx_W} {x0 x1 x2 x3 x4 x6 x7 x8 x9 : Int32} (p a d : Int32) (hb : cOK p a d) (h45 : w 45 = oM x0 x1 x2 x3 x4 (nI 8) x6 x7 x8 x9) : cx_MC mM_cell 12 0 0 [.ref 45, .int p, .int a, .int d] w 87 (fun r w2 => r = some (.int (-2)) ∧ w2 = w) := by
  obtain ⟨hp, q1, q2, q3, q4⟩ := hb
  have q5 : d ≤ 1000 := Int32.not_lt.mp q4
  have E : (8 ≤ nI 8) = True := eq_true (by decide)
  have E2 : (nI 8 < 8) = False := eq_false (by decide)
  refine cx_met 300 mM_cell_ok rfl ?_
  show cx_vc 300 none mM_cell 12 0 0 _ _ 0 [some (.ref 45), some (.int p), some (.int a), some (.int d)] [] w (87, 0, 0)
  simp (decide := true) only [BmM_cell, EV, EW, CT, ev_o, ev_is, ev_gd, List.length_cons, List.length_nil, Nat.reduceLT, Nat.reduceAdd, Nat.reduceEqDiff, Nat.reduceLeDiff, Int32.reduceLT, Int32.reduceLE, reduceIte, true_and, and_true, true_or, or_true, not_true_eq_false, not_false_eq_true, false_imp_iff, true_imp_iff, implies_true]
  refine cx_cs1 10 0 0 (by decide) (c_M_isPattern p) fun r w2 h2 => ?_
  obtain ⟨rfl, rfl⟩ := h2
  rw [if_pos hp]
  simp (decide := true) only [BmM_cell, q1, q2, q3, q5, h45, E, E2, EV, EW, CT, ev_o, ev_is, ev_gd, List.length_cons, List.length_nil, Nat.reduceLT, Nat.reduceAdd, Nat.reduceEqDiff, Nat.reduceLeDiff, Int32.reduceLT, Int32.reduceLE, reduceIte, true_and, and_true, true_or, or_true, not_true_eq_false, not_false_eq_true, false_imp_iff, true_imp_iff, implies_true]
set_option maxHeartbeats 4000000 in
theorem c_M_cell {w : cx_W} {nc cc : Nat} {x1 x2 x3 x4 x6 x7 x8 x9 : Int32} {fi nw pa ar dl : Nat → Int32} (p a d : Int32) (hb : cOK p a d) (hnc : nc ≤ 40) (hc : cc < 8) (h45 : w 45 = oM (nI nc) x1 x2 x3 x4 (nI cc) x6 x7 x8 x9) (h48 : w 48 = ai 40 fi) (h49 : w 49 = ai 40 nw) (h61 : w 61 = ai 8 pa) (h62 : w 62 = ai 8 ar) (h63 : w 63 = ai 8 dl) : cx_MC mM_cell 12 0 0 [.ref 45, .int p, .int a, .int d] w 87 (fun r w2 => r = some (.int (nI cc)) ∧ w2 45 = oM (nI nc) x1 x2 x3 x4 (nI (cc + 1)) 0 x7 x8 x9 ∧ w2 49 = ai 40 (fun j => if j < nc then fi j else nw j) ∧ w2 61 = ai 8 (upd pa cc p) ∧ w2 62 = ai 8 (upd ar cc a) ∧ w2 63 = ai 8 (upd dl cc d) ∧ ∀ k, ¬ k = 45 ∧ ¬ k = 49 ∧ ¬ k = 61 ∧ ¬ k = 62 ∧ ¬ k = 63 → w2 k = w k) := by
  obtain ⟨hp, q1, q2, q3, q4⟩ := hb
  have q5 : d ≤ 1000 := Int32.not_lt.mp q4
  have E1 := (lek (a := cc) (c := 8) (x := 8) rfl (by omega) (by decide)).trans (eq_false (by omega))
  have F1 := (ltk (a := cc) (c := 8) (x := 8) rfl (by omega) (by decide)).trans (eq_true hc)
  have v1 : vp_in (nI cc) 8 := nI_in hc (by decide)
  refine cx_met 300 mM_cell_ok rfl ?_
  show cx_vc 300 none mM_cell 12 0 0 _ _ 0 [some (.ref 45), some (.int p), some (.int a), some (.int d)] [] w (87, 0, 0)
  simp (decide := true) only [BmM_cell, EV, EW, CT, ev_o, ev_is, ev_gd, List.length_cons, List.length_nil, Nat.reduceLT, Nat.reduceAdd, Nat.reduceEqDiff, Nat.reduceLeDiff, Int32.reduceLT, Int32.reduceLE, reduceIte, true_and, and_true, true_or, or_true, not_true_eq_false, not_false_eq_true, false_imp_iff, true_imp_iff, implies_true]
  refine cx_cs1 10 0 0 (by decide) (c_M_isPattern p) fun r w2 h2 => ?_
  obtain ⟨rfl, rfl⟩ := h2
  rw [if_pos hp]
  simp (decide := true) only [BmM_cell, q1, q2, q3, q5, h45, h61, h62, h63, E1, F1, v1, nI_clamp (n := cc) (by omega), nI_1, EV, EW, CT, ev_o, ev_is, ev_gd, List.length_cons, List.length_nil, Nat.reduceLT, Nat.reduceAdd, Nat.reduceEqDiff, Nat.reduceLeDiff, Int32.reduceLT, Int32.reduceLE, reduceIte, true_and, and_true, true_or, or_true, not_true_eq_false, not_false_eq_true, false_imp_iff, true_imp_iff, implies_true]
  refine cx_cs1 1 0 0 (by decide) (c_M_changed (N := nc) (x1 := x1) (x2 := x2) (x3 := x3) (x4 := x4) (x5 := nI (cc + 1)) (x6 := x6) (x7 := x7) (x8 := x8) (x9 := x9) (f := fi) (g := nw) hnc (by simp only [cx_up, Nat.reduceEqDiff, reduceIte]) (by simp only [cx_up, Nat.reduceEqDiff, reduceIte]; exact h48) (by simp only [cx_up, Nat.reduceEqDiff, reduceIte]; exact h49)) fun r w3 q => ?_
  obtain ⟨rfl, g45, g49, gk⟩ := q
  simp (decide := true) only [BmM_cell, g45, nI_pred, EV, EW, CT, ev_o, ev_is, ev_gd, List.length_cons, List.length_nil, Nat.reduceLT, Nat.reduceAdd, Nat.reduceEqDiff, Nat.reduceLeDiff, Int32.reduceLT, Int32.reduceLE, reduceIte, true_and, and_true, true_or, or_true, not_true_eq_false, not_false_eq_true, false_imp_iff, true_imp_iff, implies_true]
  refine ⟨g49, ?_, ?_, ?_, fun k hk => ?_⟩
  · rw [gk 61 (by decide) (by decide)]; simp only [cx_up, Nat.reduceEqDiff, reduceIte]
  · rw [gk 62 (by decide) (by decide)]; simp only [cx_up, Nat.reduceEqDiff, reduceIte]
  · rw [gk 63 (by decide) (by decide)]; simp only [cx_up, Nat.reduceEqDiff, reduceIte]
  · rw [gk k hk.1 hk.2.1]
    simp (disch := omega) only [cx_up, if_neg]
