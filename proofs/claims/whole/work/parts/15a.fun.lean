/-! Building, the class: function. Printed by gen_fun.py. -/
theorem ne_m1 {nc : Nat} {a : Int32} (h : isNet nc a) : (a = -1) = False := eq_false fun e => h.1 (by rw [e]; decide)
set_option maxHeartbeats 4000000 in
theorem c_Ci_addFun1 {w : cx_W} {G : Gr} {nc ic lc oc t : Nat} {ib pb : Int32} {nn nl dv on rw0 : Nat → Int32} (a : Int32) (ha : isNet nc a) (hG : GW w G) (hW : WFG 2 3 G) (h11 : w 11 = ai 3 rw0) (hC : CW w nc ic lc oc ib pb nn nl dv on) (hnc : nc < 40) (hn : G.1 ≤ 32) (hza : isN G.1 (nn a.toNatClampNeg)) (ht0 : 0 < t) (ht : t < 3) :
    cx_MC mCi_addFunction 11 0 0 [.ref 6, .int a, .int (-1), .int (-1), .int (nI t)] w 87 (fun r w2 => r = some (.int (nI nc)) ∧ GW w2 (tab1 2 3 G (nn a.toNatClampNeg) t).2 ∧ (∃ rw2, w2 11 = ai 3 rw2) ∧ CW w2 (nc + 1) ic lc oc ib pb (upd nn nc (tab1 2 3 G (nn a.toNatClampNeg) t).1) (upd nl nc (-1)) dv on ∧ ∀ k, (k = 0 ∨ k = 5) ∨ 11 < k → w2 k = w k) := by
  obtain ⟨h6, h7, h8, h9, h10⟩ := hC
  have h1 := hG.1
  have ea := ne_m1 ha
  obtain ⟨a1, a2⟩ := ha
  have va : vp_in a 40 := vin a1 a2 (by omega) (by decide)
  have E1 := (eqc (a := nc) (c := 40) (x := 40) rfl (by omega) (by decide)).trans (eq_false (by omega))
  have E2 : (nI G.1 ≤ 32) = True := eq_true (nI_le (b := 32) hn (by decide))
  have v2 : vp_in (nI nc) 40 := nI_in hnc (by decide)
  have u0 : vp_in 0 3 := by unfold vp_in; decide
  have u1 : vp_in 1 3 := by unfold vp_in; decide
  have u2 : vp_in 2 3 := by unfold vp_in; decide
  refine cx_met 200 mCi_addFunction_ok rfl ?_
  show cx_vc 200 none mCi_addFunction 11 0 0 _ _ 0 [some (.ref 6), some (.int a), some (.int (-1)), some (.int (-1)), some (.int (nI t)), none] [] w (87, 0, 0)
  simp (decide := true) only [BmCi_addFunction, BmCi_countArguments, BmCi_isNet, BmCi_isNetOrNone, BmGr_size, h1, h6, h7, h11, a1, a2, va, ea, E1, E2, u0, u1, u2, Int32.reduceToNatClampNeg, EV, EW, CT, ev_o, ev_is, ev_gd, List.length_cons, List.length_nil, Nat.reduceLT, Nat.reduceAdd, Nat.reduceEqDiff, Nat.reduceLeDiff, Int32.reduceLT, Int32.reduceLE, reduceIte, true_and, and_true, true_or, or_true, not_true_eq_false, not_false_eq_true, false_imp_iff, true_imp_iff, implies_true]
  refine cx_cs1 5 0 0 (by decide) (c_Ci_table1 (row := upd (upd (upd rw0 0 (nn a.toNatClampNeg)) 1 (-1)) 2 (-1)) (t := t) ⟨by simp only [cx_up, Nat.reduceEqDiff, reduceIte]; exact hG.1, by simp only [cx_up, Nat.reduceEqDiff, reduceIte]; exact hG.2.1, by simp only [cx_up, Nat.reduceEqDiff, reduceIte]; exact hG.2.2.1, by simp only [cx_up, Nat.reduceEqDiff, reduceIte]; exact hG.2.2.2⟩ hW (by omega) (by simp only [cx_up, Nat.reduceEqDiff, reduceIte]) hza (by omega)) fun r w2 q => ?_
  obtain ⟨rfl, hG2, hk2⟩ := q
  have k6 : w2 6 = w 6 := by rw [hk2 6 (by omega)]; simp only [cx_up, Nat.reduceEqDiff, reduceIte]
  have k7 : w2 7 = w 7 := by rw [hk2 7 (by omega)]; simp only [cx_up, Nat.reduceEqDiff, reduceIte]
  have k8 : w2 8 = w 8 := by rw [hk2 8 (by omega)]; simp only [cx_up, Nat.reduceEqDiff, reduceIte]
  have k9 : w2 9 = w 9 := by rw [hk2 9 (by omega)]; simp only [cx_up, Nat.reduceEqDiff, reduceIte]
  have k10 : w2 10 = w 10 := by rw [hk2 10 (by omega)]; simp only [cx_up, Nat.reduceEqDiff, reduceIte]
  rw [h6] at k6
  rw [h7] at k7
  rw [h8] at k8
  have g1 := hG2.1
  simp (decide := true) only [BmCi_addFunction, BmCi_addNet, k6, k7, k8, v2, nI_clamp (n := nc) (by omega), nI_1, EV, EW, CT, ev_o, ev_is, ev_gd, List.length_cons, List.length_nil, Nat.reduceLT, Nat.reduceAdd, Nat.reduceEqDiff, Nat.reduceLeDiff, Int32.reduceLT, Int32.reduceLE, reduceIte, true_and, and_true, true_or, or_true, not_true_eq_false, not_false_eq_true, false_imp_iff, true_imp_iff, implies_true]
  refine ⟨⟨?_, ?_, ?_, ?_⟩, ?_, ⟨?_, ?_, ?_, ?_, ?_⟩, fun k hk => ?_⟩
  · simp only [cx_up, Nat.reduceEqDiff, reduceIte]; exact hG2.1
  · simp only [cx_up, Nat.reduceEqDiff, reduceIte]; exact hG2.2.1
  · simp only [cx_up, Nat.reduceEqDiff, reduceIte]; exact hG2.2.2.1
  · simp only [cx_up, Nat.reduceEqDiff, reduceIte]; exact hG2.2.2.2
  · refine ⟨upd (upd (upd rw0 0 (nn a.toNatClampNeg)) 1 (-1)) 2 (-1), ?_⟩
    rw [hk2 11 (by omega)]; simp only [cx_up, Nat.reduceEqDiff, reduceIte]
  · simp only [cx_up, Nat.reduceEqDiff, reduceIte]
  · simp only [cx_up, Nat.reduceEqDiff, reduceIte]; rfl
  · simp only [cx_up, Nat.reduceEqDiff, reduceIte]
  · simp only [cx_up, Nat.reduceEqDiff, reduceIte]; rw [k9]; exact h9
  · simp only [cx_up, Nat.reduceEqDiff, reduceIte]; rw [k10]; exact h10
  · simp (disch := omega) only [cx_up, if_neg]
    rw [hk2 k (by omega)]
    simp (disch := omega) only [cx_up, if_neg]
set_option maxHeartbeats 4000000 in
theorem c_Ci_addFun2 {w : cx_W} {G : Gr} {nc ic lc oc t : Nat} {ib pb : Int32} {nn nl dv on rw0 : Nat → Int32} (a b : Int32) (ha : isNet nc a) (hb : isNet nc b) (hG : GW w G) (hW : WFG 2 3 G) (h11 : w 11 = ai 3 rw0) (hC : CW w nc ic lc oc ib pb nn nl dv on) (hnc : nc < 40) (hn : G.1 ≤ 32) (hza : isN G.1 (nn a.toNatClampNeg)) (hzb : isN G.1 (nn b.toNatClampNeg)) (ht0 : 0 < t) (ht : t < 15) :
    cx_MC mCi_addFunction 11 0 0 [.ref 6, .int a, .int b, .int (-1), .int (nI t)] w 87 (fun r w2 => r = some (.int (nI nc)) ∧ GW w2 (tab2 2 3 G (nn a.toNatClampNeg) (nn b.toNatClampNeg) t).2 ∧ (∃ rw2, w2 11 = ai 3 rw2) ∧ CW w2 (nc + 1) ic lc oc ib pb (upd nn nc (tab2 2 3 G (nn a.toNatClampNeg) (nn b.toNatClampNeg) t).1) (upd nl nc (-1)) dv on ∧ ∀ k, (k = 0 ∨ k = 5) ∨ 11 < k → w2 k = w k) := by
  obtain ⟨h6, h7, h8, h9, h10⟩ := hC
  have h1 := hG.1
  have ea := ne_m1 ha
  obtain ⟨a1, a2⟩ := ha
  have va : vp_in a 40 := vin a1 a2 (by omega) (by decide)
  have eb := ne_m1 hb
  obtain ⟨b1, b2⟩ := hb
  have vb : vp_in b 40 := vin b1 b2 (by omega) (by decide)
  have E1 := (eqc (a := nc) (c := 40) (x := 40) rfl (by omega) (by decide)).trans (eq_false (by omega))
  have E2 : (nI G.1 ≤ 32) = True := eq_true (nI_le (b := 32) hn (by decide))
  have v2 : vp_in (nI nc) 40 := nI_in hnc (by decide)
  have u0 : vp_in 0 3 := by unfold vp_in; decide
  have u1 : vp_in 1 3 := by unfold vp_in; decide
  have u2 : vp_in 2 3 := by unfold vp_in; decide
  refine cx_met 200 mCi_addFunction_ok rfl ?_
  show cx_vc 200 none mCi_addFunction 11 0 0 _ _ 0 [some (.ref 6), some (.int a), some (.int b), some (.int (-1)), some (.int (nI t)), none] [] w (87, 0, 0)
  simp (decide := true) only [BmCi_addFunction, BmCi_countArguments, BmCi_isNet, BmCi_isNetOrNone, BmGr_size, h1, h6, h7, h11, a1, a2, va, ea, b1, b2, vb, eb, E1, E2, u0, u1, u2, Int32.reduceToNatClampNeg, EV, EW, CT, ev_o, ev_is, ev_gd, List.length_cons, List.length_nil, Nat.reduceLT, Nat.reduceAdd, Nat.reduceEqDiff, Nat.reduceLeDiff, Int32.reduceLT, Int32.reduceLE, reduceIte, true_and, and_true, true_or, or_true, not_true_eq_false, not_false_eq_true, false_imp_iff, true_imp_iff, implies_true]
  refine cx_cs1 6 0 0 (by decide) (c_Ci_table2 (row := upd (upd (upd rw0 0 (nn a.toNatClampNeg)) 1 (nn b.toNatClampNeg)) 2 (-1)) (t := t) ⟨by simp only [cx_up, Nat.reduceEqDiff, reduceIte]; exact hG.1, by simp only [cx_up, Nat.reduceEqDiff, reduceIte]; exact hG.2.1, by simp only [cx_up, Nat.reduceEqDiff, reduceIte]; exact hG.2.2.1, by simp only [cx_up, Nat.reduceEqDiff, reduceIte]; exact hG.2.2.2⟩ hW (by omega) (by simp only [cx_up, Nat.reduceEqDiff, reduceIte]) hza hzb ht0 ht) fun r w2 q => ?_
  obtain ⟨rfl, hG2, hk2⟩ := q
  have k6 : w2 6 = w 6 := by rw [hk2 6 (by omega)]; simp only [cx_up, Nat.reduceEqDiff, reduceIte]
  have k7 : w2 7 = w 7 := by rw [hk2 7 (by omega)]; simp only [cx_up, Nat.reduceEqDiff, reduceIte]
  have k8 : w2 8 = w 8 := by rw [hk2 8 (by omega)]; simp only [cx_up, Nat.reduceEqDiff, reduceIte]
  have k9 : w2 9 = w 9 := by rw [hk2 9 (by omega)]; simp only [cx_up, Nat.reduceEqDiff, reduceIte]
  have k10 : w2 10 = w 10 := by rw [hk2 10 (by omega)]; simp only [cx_up, Nat.reduceEqDiff, reduceIte]
  rw [h6] at k6
  rw [h7] at k7
  rw [h8] at k8
  have g1 := hG2.1
  simp (decide := true) only [BmCi_addFunction, BmCi_addNet, k6, k7, k8, v2, nI_clamp (n := nc) (by omega), nI_1, EV, EW, CT, ev_o, ev_is, ev_gd, List.length_cons, List.length_nil, Nat.reduceLT, Nat.reduceAdd, Nat.reduceEqDiff, Nat.reduceLeDiff, Int32.reduceLT, Int32.reduceLE, reduceIte, true_and, and_true, true_or, or_true, not_true_eq_false, not_false_eq_true, false_imp_iff, true_imp_iff, implies_true]
  refine ⟨⟨?_, ?_, ?_, ?_⟩, ?_, ⟨?_, ?_, ?_, ?_, ?_⟩, fun k hk => ?_⟩
  · simp only [cx_up, Nat.reduceEqDiff, reduceIte]; exact hG2.1
  · simp only [cx_up, Nat.reduceEqDiff, reduceIte]; exact hG2.2.1
  · simp only [cx_up, Nat.reduceEqDiff, reduceIte]; exact hG2.2.2.1
  · simp only [cx_up, Nat.reduceEqDiff, reduceIte]; exact hG2.2.2.2
  · refine ⟨upd (upd (upd rw0 0 (nn a.toNatClampNeg)) 1 (nn b.toNatClampNeg)) 2 (-1), ?_⟩
    rw [hk2 11 (by omega)]; simp only [cx_up, Nat.reduceEqDiff, reduceIte]
  · simp only [cx_up, Nat.reduceEqDiff, reduceIte]
  · simp only [cx_up, Nat.reduceEqDiff, reduceIte]; rfl
  · simp only [cx_up, Nat.reduceEqDiff, reduceIte]
  · simp only [cx_up, Nat.reduceEqDiff, reduceIte]; rw [k9]; exact h9
  · simp only [cx_up, Nat.reduceEqDiff, reduceIte]; rw [k10]; exact h10
  · simp (disch := omega) only [cx_up, if_neg]
    rw [hk2 k (by omega)]
    simp (disch := omega) only [cx_up, if_neg]
set_option maxHeartbeats 4000000 in
theorem c_Ci_addFun3 {w : cx_W} {G : Gr} {nc ic lc oc t : Nat} {ib pb : Int32} {nn nl dv on rw0 : Nat → Int32} (a b c : Int32) (ha : isNet nc a) (hb : isNet nc b) (hc : isNet nc c) (hG : GW w G) (hW : WFG 2 3 G) (h11 : w 11 = ai 3 rw0) (hC : CW w nc ic lc oc ib pb nn nl dv on) (hnc : nc < 40) (hn : G.1 ≤ 32) (hza : isN G.1 (nn a.toNatClampNeg)) (hzb : isN G.1 (nn b.toNatClampNeg)) (hzc : isN G.1 (nn c.toNatClampNeg)) (ht0 : 0 < t) (ht : t < 255) :
    cx_MC mCi_addFunction 11 0 0 [.ref 6, .int a, .int b, .int c, .int (nI t)] w 87 (fun r w2 => r = some (.int (nI nc)) ∧ GW w2 (tab3 2 3 G (nn a.toNatClampNeg) (nn b.toNatClampNeg) (nn c.toNatClampNeg) t).2 ∧ (∃ rw2, w2 11 = ai 3 rw2) ∧ CW w2 (nc + 1) ic lc oc ib pb (upd nn nc (tab3 2 3 G (nn a.toNatClampNeg) (nn b.toNatClampNeg) (nn c.toNatClampNeg) t).1) (upd nl nc (-1)) dv on ∧ ∀ k, (k = 0 ∨ k = 5) ∨ 11 < k → w2 k = w k) := by
  obtain ⟨h6, h7, h8, h9, h10⟩ := hC
  have h1 := hG.1
  have ea := ne_m1 ha
  obtain ⟨a1, a2⟩ := ha
  have va : vp_in a 40 := vin a1 a2 (by omega) (by decide)
  have eb := ne_m1 hb
  obtain ⟨b1, b2⟩ := hb
  have vb : vp_in b 40 := vin b1 b2 (by omega) (by decide)
  have ec := ne_m1 hc
  obtain ⟨c1, c2⟩ := hc
  have vc : vp_in c 40 := vin c1 c2 (by omega) (by decide)
  have E1 := (eqc (a := nc) (c := 40) (x := 40) rfl (by omega) (by decide)).trans (eq_false (by omega))
  have E2 : (nI G.1 ≤ 32) = True := eq_true (nI_le (b := 32) hn (by decide))
  have v2 : vp_in (nI nc) 40 := nI_in hnc (by decide)
  have u0 : vp_in 0 3 := by unfold vp_in; decide
  have u1 : vp_in 1 3 := by unfold vp_in; decide
  have u2 : vp_in 2 3 := by unfold vp_in; decide
  refine cx_met 200 mCi_addFunction_ok rfl ?_
  show cx_vc 200 none mCi_addFunction 11 0 0 _ _ 0 [some (.ref 6), some (.int a), some (.int b), some (.int c), some (.int (nI t)), none] [] w (87, 0, 0)
  simp (decide := true) only [BmCi_addFunction, BmCi_countArguments, BmCi_isNet, BmCi_isNetOrNone, BmGr_size, h1, h6, h7, h11, a1, a2, va, ea, b1, b2, vb, eb, c1, c2, vc, ec, E1, E2, u0, u1, u2, Int32.reduceToNatClampNeg, EV, EW, CT, ev_o, ev_is, ev_gd, List.length_cons, List.length_nil, Nat.reduceLT, Nat.reduceAdd, Nat.reduceEqDiff, Nat.reduceLeDiff, Int32.reduceLT, Int32.reduceLE, reduceIte, true_and, and_true, true_or, or_true, not_true_eq_false, not_false_eq_true, false_imp_iff, true_imp_iff, implies_true]
  refine cx_cs1 7 0 0 (by decide) (c_Ci_table3 (row := upd (upd (upd rw0 0 (nn a.toNatClampNeg)) 1 (nn b.toNatClampNeg)) 2 (nn c.toNatClampNeg)) (t := t) ⟨by simp only [cx_up, Nat.reduceEqDiff, reduceIte]; exact hG.1, by simp only [cx_up, Nat.reduceEqDiff, reduceIte]; exact hG.2.1, by simp only [cx_up, Nat.reduceEqDiff, reduceIte]; exact hG.2.2.1, by simp only [cx_up, Nat.reduceEqDiff, reduceIte]; exact hG.2.2.2⟩ hW (by omega) (by simp only [cx_up, Nat.reduceEqDiff, reduceIte]) hza hzb hzc ht0 ht) fun r w2 q => ?_
  obtain ⟨rfl, hG2, hk2⟩ := q
  have k6 : w2 6 = w 6 := by rw [hk2 6 (by omega)]; simp only [cx_up, Nat.reduceEqDiff, reduceIte]
  have k7 : w2 7 = w 7 := by rw [hk2 7 (by omega)]; simp only [cx_up, Nat.reduceEqDiff, reduceIte]
  have k8 : w2 8 = w 8 := by rw [hk2 8 (by omega)]; simp only [cx_up, Nat.reduceEqDiff, reduceIte]
  have k9 : w2 9 = w 9 := by rw [hk2 9 (by omega)]; simp only [cx_up, Nat.reduceEqDiff, reduceIte]
  have k10 : w2 10 = w 10 := by rw [hk2 10 (by omega)]; simp only [cx_up, Nat.reduceEqDiff, reduceIte]
  rw [h6] at k6
  rw [h7] at k7
  rw [h8] at k8
  have g1 := hG2.1
  simp (decide := true) only [BmCi_addFunction, BmCi_addNet, k6, k7, k8, v2, nI_clamp (n := nc) (by omega), nI_1, EV, EW, CT, ev_o, ev_is, ev_gd, List.length_cons, List.length_nil, Nat.reduceLT, Nat.reduceAdd, Nat.reduceEqDiff, Nat.reduceLeDiff, Int32.reduceLT, Int32.reduceLE, reduceIte, true_and, and_true, true_or, or_true, not_true_eq_false, not_false_eq_true, false_imp_iff, true_imp_iff, implies_true]
  refine ⟨⟨?_, ?_, ?_, ?_⟩, ?_, ⟨?_, ?_, ?_, ?_, ?_⟩, fun k hk => ?_⟩
  · simp only [cx_up, Nat.reduceEqDiff, reduceIte]; exact hG2.1
  · simp only [cx_up, Nat.reduceEqDiff, reduceIte]; exact hG2.2.1
  · simp only [cx_up, Nat.reduceEqDiff, reduceIte]; exact hG2.2.2.1
  · simp only [cx_up, Nat.reduceEqDiff, reduceIte]; exact hG2.2.2.2
  · refine ⟨upd (upd (upd rw0 0 (nn a.toNatClampNeg)) 1 (nn b.toNatClampNeg)) 2 (nn c.toNatClampNeg), ?_⟩
    rw [hk2 11 (by omega)]; simp only [cx_up, Nat.reduceEqDiff, reduceIte]
  · simp only [cx_up, Nat.reduceEqDiff, reduceIte]
  · simp only [cx_up, Nat.reduceEqDiff, reduceIte]; rfl
  · simp only [cx_up, Nat.reduceEqDiff, reduceIte]
  · simp only [cx_up, Nat.reduceEqDiff, reduceIte]; rw [k9]; exact h9
  · simp only [cx_up, Nat.reduceEqDiff, reduceIte]; rw [k10]; exact h10
  · simp (disch := omega) only [cx_up, if_neg]
    rw [hk2 k (by omega)]
    simp (disch := omega) only [cx_up, if_neg]
