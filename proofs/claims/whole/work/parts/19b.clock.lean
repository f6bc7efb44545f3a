/-! Clocking, the given side: a cycle. Own work. -/
set_option maxHeartbeats 4000000 in
theorem rc_loop3 {w : cx_W} {G : Gr} {nc ic lc oc : Nat} {ib pp inp nb : Int32} {nn nl dv on vs : Nat → Int32} {v : Nat → Bool} {ond : Nat → Nat} {dd : Nat} {Q : cx_Q} (hC : CW w nc ic lc oc ib pp nn nl dv on) (h12 : w 12 = ai 48 vs) (hn : G.1 ≤ 48) (hoc : oc ≤ 4) (hv : ∀ j, j < G.1 → vs j = nI (v j).toNat) (hO : OutC G oc nn on ond) (hQ : Q (some (.int (nI (pb (fun o => v (ond o)) oc)))) w (87, 0, 0)) :
    ∀ (m o : Nat), o + m = oc →
    cx_OK none mCi_runCycle (dd + 2) 0 0 Q 74 [some (.ref 6), some (.int inp), some (.int nb), some (.int (nI (pb (fun o => v (ond o)) o))), some (.int (nI o))] [] w (87, 0, 0) := by
  obtain ⟨h6, h7, h8, h9, h10⟩ := hC
  intro m
  induction m with
  | zero =>
    intro o ho
    have e : o = oc := by omega
    subst e
    have E := leT (a := o) (b := o) (by omega) (by omega)
    refine cx_run 60 mCi_runCycle_mo ?_
    simp (decide := true) only [BmCi_runCycle, h6, E, EV, EW, CT, ev_o, ev_is, ev_gd, List.length_cons, List.length_nil, Nat.reduceLT, Nat.reduceAdd, Nat.reduceEqDiff, Nat.reduceLeDiff, Int32.reduceLT, Int32.reduceLE, reduceIte, true_and, and_true, true_or, or_true, not_true_eq_false, not_false_eq_true, false_imp_iff, true_imp_iff, implies_true]
    exact hQ
  | succ m ih =>
    intro o ho
    have E := leF (a := oc) (b := o) (by omega) (by omega)
    have v1 : vp_in (nI o) 4 := nI_in (by omega) (by decide)
    have ⟨o1, o2, o3⟩ := hO o (by omega)
    have v2 : vp_in (nI (ond o)) 48 := nI_in (by omega) (by decide)
    have e := pb_or (f := fun o => v (ond o)) (k := o) (by omega)
    have e2 := hv (ond o) o3
    refine cx_run 60 mCi_runCycle_mo ?_
    simp (decide := true) only [BmCi_runCycle, BSC, h6, h7, h10, h12, E, v1, v2, o1, o2, e2, e, nI_clamp (n := o) (by omega), nI_clamp (n := ond o) (by omega), nI_1, EV, EW, CT, ev_o, ev_is, ev_gd, List.length_cons, List.length_nil, Nat.reduceLT, Nat.reduceAdd, Nat.reduceEqDiff, Nat.reduceLeDiff, Int32.reduceLT, Int32.reduceLE, reduceIte, true_and, and_true, true_or, or_true, not_true_eq_false, not_false_eq_true, false_imp_iff, true_imp_iff, implies_true]
    exact ih (o + 1) (by omega)
set_option maxHeartbeats 4000000 in
theorem rc_loop2 {w : cx_W} {G : Gr} {nc ic lc oc : Nat} {ib pp inp : Int32} {nn nl dv on od vs : Nat → Int32} {v : Nat → Bool} {drv ol ond : Nat → Nat} {dd : Nat} {Q : cx_Q} (hC : CW w nc ic lc oc ib pp nn nl dv on) (h12 : w 12 = ai 48 vs) (hn : G.1 ≤ 48) (hlc : lc ≤ 6) (hoc : oc ≤ 4) (hv : ∀ j, j < G.1 → vs j = nI (v j).toNat) (hD : DrvC G lc nn dv od drv ol) (hO : OutC G oc nn on ond) (hQ : ∀ w2, CW w2 nc ic lc oc ib (nI (pb (fun l => v (drv l)) lc)) nn nl dv on → (∀ k, ¬ k = 6 → w2 k = w k) → Q (some (.int (nI (pb (fun o => v (ond o)) oc)))) w2 (87, 0, 0)) :
    ∀ (m l : Nat) (l4 : Option Value), l + m = lc →
    cx_OK none mCi_runCycle (dd + 2) 0 0 Q 35 [some (.ref 6), some (.int inp), some (.int (nI (pb (fun l => v (drv l)) l))), some (.int (nI l)), l4] [] w (87, 0, 0) := by
  obtain ⟨h6, h7, h8, h9, h10⟩ := hC
  intro m
  induction m with
  | zero =>
    intro l l4 hl
    have e : l = lc := by omega
    subst e
    have E := leT (a := l) (b := l) (by omega) (by omega)
    refine cx_run 60 mCi_runCycle_mo ?_
    simp (decide := true) only [BmCi_runCycle, h6, E, EV, EW, CT, ev_o, ev_is, ev_gd, List.length_cons, List.length_nil, Nat.reduceLT, Nat.reduceAdd, Nat.reduceEqDiff, Nat.reduceLeDiff, Int32.reduceLT, Int32.reduceLE, reduceIte, true_and, and_true, true_or, or_true, not_true_eq_false, not_false_eq_true, false_imp_iff, true_imp_iff, implies_true]
    refine rc_loop3 (G := G) (nc := nc) (ic := ic) (lc := l) (oc := oc) (ib := ib) (pp := nI (pb (fun l => v (drv l)) l)) (nn := nn) (nl := nl) (dv := dv) (on := on) (vs := vs) (v := v) (ond := ond) ⟨by simp only [cx_up, Nat.reduceEqDiff, reduceIte], by simp only [cx_up, Nat.reduceEqDiff, reduceIte]; exact h7, by simp only [cx_up, Nat.reduceEqDiff, reduceIte]; exact h8, by simp only [cx_up, Nat.reduceEqDiff, reduceIte]; exact h9, by simp only [cx_up, Nat.reduceEqDiff, reduceIte]; exact h10⟩ (by simp only [cx_up, Nat.reduceEqDiff, reduceIte]; exact h12) hn hoc hv hO ?_ oc 0 (by omega)
    exact hQ _ ⟨by simp only [cx_up, Nat.reduceEqDiff, reduceIte], by simp only [cx_up, Nat.reduceEqDiff, reduceIte]; exact h7, by simp only [cx_up, Nat.reduceEqDiff, reduceIte]; exact h8, by simp only [cx_up, Nat.reduceEqDiff, reduceIte]; exact h9, by simp only [cx_up, Nat.reduceEqDiff, reduceIte]; exact h10⟩ (fun k hk => by simp (disch := omega) only [cx_up, if_neg])
  | succ m ih =>
    intro l l4 hl
    have E := leF (a := lc) (b := l) (by omega) (by omega)
    have v1 : vp_in (nI l) 6 := nI_in (by omega) (by decide)
    have ⟨o1, o2, o3⟩ := hD.1 l (by omega)
    have v2 : vp_in (nI (drv l)) 48 := nI_in (by omega) (by decide)
    have e := pb_or (f := fun l => v (drv l)) (k := l) (by omega)
    have e2 := hv (drv l) o3
    refine cx_run 60 mCi_runCycle_mo ?_
    simp (decide := true) only [BmCi_runCycle, BSC, h6, h7, h9, h12, E, v1, v2, o1, o2, e2, e, nI_clamp (n := l) (by omega), nI_clamp (n := drv l) (by omega), nI_1, EV, EW, CT, ev_o, ev_is, ev_gd, List.length_cons, List.length_nil, Nat.reduceLT, Nat.reduceAdd, Nat.reduceEqDiff, Nat.reduceLeDiff, Int32.reduceLT, Int32.reduceLE, reduceIte, true_and, and_true, true_or, or_true, not_true_eq_false, not_false_eq_true, false_imp_iff, true_imp_iff, implies_true]
    exact ih (l + 1) _ (by omega)
set_option maxHeartbeats 4000000 in
theorem rc_loop1 {w : cx_W} {G : Gr} {nc ic lc oc C : Nat} {ib inp : Int32} {nn nl dv on od : Nat → Int32} {v : Nat → Bool} {drv ol ond : Nat → Nat} {dd : Nat} (hG : GW w G) (h5 : w 5 = ai 48 od) (hC : CW w nc ic lc oc ib (nI C) nn nl dv on) (hn : G.1 ≤ 48) (hlc : lc ≤ 6) (hoc : oc ≤ 4) (hW : WFG 2 3 G) (hCb : C < 2 ^ 31)
    (hk : ∀ m, m < G.1 → G.2.1 m = 0 ∨ G.2.1 m = 1 ∨ G.2.1 m = 2 ∨ G.2.1 m = 3) (hl0 : ∀ m, m < G.1 → G.2.1 m = 0 → ∃ k : Nat, od m = nI k ∧ nI (v m).toNat = inp >>> (nI k &&& 31) &&& 1) (hl1 : ∀ m, m < G.1 → G.2.1 m = 1 → ∃ k : Nat, k < 6 ∧ od m = nI k ∧ v m = C.testBit k) (hV : Vl 2 3 G v) (hD : DrvC G lc nn dv od drv ol) (hO : OutC G oc nn on ond) :
    ∀ (m i : Nat) (w1 : cx_W) (vs : Nat → Int32) (l3 l4 : Option Value), i + m = G.1 → w1 12 = ai 48 vs → (∀ j, j < i → vs j = nI (v j).toNat) → (∀ k, ¬ k = 12 → w1 k = w k) →
    cx_OK none mCi_runCycle (dd + 2) 0 0 (fun r w2 _ => r = some (.int (nI (pb (fun o => v (ond o)) oc))) ∧ CW w2 nc ic lc oc ib (nI (pb (fun l => v (drv l)) lc)) nn nl dv on ∧ (∃ vs, w2 12 = ai 48 vs) ∧ ∀ k, ¬ k = 6 ∧ ¬ k = 12 → w2 k = w k) 2 [some (.ref 6), some (.int inp), some (.int (nI i)), l3, l4] [] w1 (87, 0, 0) := by
  have hG' := hG
  have hC' := hC
  obtain ⟨g1, g2, g3, g4⟩ := hG
  obtain ⟨h6, h7, h8, h9, h10⟩ := hC
  intro m
  induction m with
  | zero =>
    intro i w1 vs l3 l4 hi h12 hv hk2
    have e : i = G.1 := by omega
    subst e
    have E := leT (a := G.1) (b := G.1) (by omega) (by omega)
    have k6 := (hk2 6 (by decide)).trans h6
    have k1 := (hk2 1 (by decide)).trans g1
    refine cx_run 60 mCi_runCycle_mo ?_
    simp (decide := true) only [BmCi_runCycle, BSC, k6, k1, E, EV, EW, CT, ev_o, ev_is, ev_gd, List.length_cons, List.length_nil, Nat.reduceLT, Nat.reduceAdd, Nat.reduceEqDiff, Nat.reduceLeDiff, Int32.reduceLT, Int32.reduceLE, reduceIte, true_and, and_true, true_or, or_true, not_true_eq_false, not_false_eq_true, false_imp_iff, true_imp_iff, implies_true]
    exact rc_loop2 (G := G) (vs := vs) (v := v) (drv := drv) (ond := ond) ⟨k6, (hk2 7 (by decide)).trans h7, (hk2 8 (by decide)).trans h8, (hk2 9 (by decide)).trans h9, (hk2 10 (by decide)).trans h10⟩ h12 hn hlc hoc hv hD hO (fun w2 a b => ⟨rfl, a, ⟨vs, (b 12 (by decide)).trans h12⟩, fun k q => (b k q.1).trans (hk2 k q.2)⟩) lc 0 _ (by omega)
  | succ m ih =>
    intro i w1 vs l3 l4 hi h12 hv hk2
    have E := leF (a := G.1) (b := i) (by omega) (by omega)
    have k6 := (hk2 6 (by decide)).trans h6
    have k1 := (hk2 1 (by decide)).trans g1
    have v1 : vp_in (nI i) 48 := nI_in (by omega) (by decide)
    refine cx_run 60 mCi_runCycle_mo ?_
    simp (decide := true) only [BmCi_runCycle, BSC, k6, k1, h12, E, EV, EW, CT, ev_o, ev_is, ev_gd, List.length_cons, List.length_nil, Nat.reduceLT, Nat.reduceAdd, Nat.reduceEqDiff, Nat.reduceLeDiff, Int32.reduceLT, Int32.reduceLE, reduceIte, true_and, and_true, true_or, or_true, not_true_eq_false, not_false_eq_true, false_imp_iff, true_imp_iff, implies_true]
    refine cx_cs1 (dd + 1) 0 0 ⟨Nat.le_refl _, by show 8 + (4 + 11) + 40 * (dd + 1) ≤ 40 * (dd + 2); omega, Nat.le_refl _, Nat.le_refl _⟩ (c_Ci_nodeValue (dd := dd) (G := G) (v := v) (vs := vs) ⟨k1, (hk2 2 (by decide)).trans g2, (hk2 3 (by decide)).trans g3, (hk2 4 (by decide)).trans g4⟩ ((hk2 5 (by decide)).trans h5) ⟨k6, (hk2 7 (by decide)).trans h7, (hk2 8 (by decide)).trans h8, (hk2 9 (by decide)).trans h9, (hk2 10 (by decide)).trans h10⟩ h12 hn (by omega) hW hCb (hk i (by omega)) hv (hl0 i (by omega)) (hl1 i (by omega)) hV) fun r w2 h2 => ?_
    obtain ⟨rfl, rfl⟩ := h2
    simp (decide := true) only [BmCi_runCycle, h12, v1, nI_clamp (n := i) (by omega), nI_1, EV, EW, CT, ev_o, ev_is, ev_gd, List.length_cons, List.length_nil, Nat.reduceLT, Nat.reduceAdd, Nat.reduceEqDiff, Nat.reduceLeDiff, Int32.reduceLT, Int32.reduceLE, reduceIte, true_and, and_true, true_or, or_true, not_true_eq_false, not_false_eq_true, false_imp_iff, true_imp_iff, implies_true]
    refine ih (i + 1) _ (upd vs i (nI (v i).toNat)) _ _ (by omega) (by simp only [cx_up, Nat.reduceEqDiff, reduceIte]) (fun j hj => ?_) (fun k q => by rw [← hk2 k q]; simp (disch := omega) only [cx_up, if_neg])
    by_cases e : j = i
    · rw [e, pk_us]
    · rw [pk_un e]; exact hv j (by omega)
set_option maxHeartbeats 4000000 in
theorem c_Ci_runCycle {w : cx_W} {G : Gr} {nc ic lc oc C : Nat} {ib inp : Int32} {nn nl dv on od vs : Nat → Int32} {v : Nat → Bool} {drv ol ond : Nat → Nat} {dd : Nat} (hG : GW w G) (h5 : w 5 = ai 48 od) (hC : CW w nc ic lc oc ib (nI C) nn nl dv on) (h12 : w 12 = ai 48 vs) (hn : G.1 ≤ 48) (hlc : lc ≤ 6) (hoc : oc ≤ 4) (hW : WFG 2 3 G) (hCb : C < 2 ^ 31)
    (hk : ∀ m, m < G.1 → G.2.1 m = 0 ∨ G.2.1 m = 1 ∨ G.2.1 m = 2 ∨ G.2.1 m = 3) (hl0 : ∀ m, m < G.1 → G.2.1 m = 0 → ∃ k : Nat, od m = nI k ∧ nI (v m).toNat = inp >>> (nI k &&& 31) &&& 1) (hl1 : ∀ m, m < G.1 → G.2.1 m = 1 → ∃ k : Nat, k < 6 ∧ od m = nI k ∧ v m = C.testBit k) (hV : Vl 2 3 G v) (hD : DrvC G lc nn dv od drv ol) (hO : OutC G oc nn on ond) :
    cx_MC mCi_runCycle (dd + 2) 0 0 [.ref 6, .int inp] w 87 (fun r w2 => r = some (.int (nI (pb (fun o => v (ond o)) oc))) ∧ CW w2 nc ic lc oc ib (nI (pb (fun l => v (drv l)) lc)) nn nl dv on ∧ (∃ vs, w2 12 = ai 48 vs) ∧ ∀ k, ¬ k = 6 ∧ ¬ k = 12 → w2 k = w k) := by
  refine cx_met 60 mCi_runCycle_ok rfl ?_
  show cx_vc 60 none mCi_runCycle (dd + 2) 0 0 _ _ 0 [some (.ref 6), some (.int inp), none, none, none] [] w (87, 0, 0)
  simp only [BmCi_runCycle, EV, EW, CT, ev_o, ev_is, ev_gd, List.length_cons, List.length_nil, Nat.reduceLT, Nat.reduceAdd, Nat.reduceEqDiff, Nat.reduceLeDiff, Int32.reduceLT, Int32.reduceLE, reduceIte, true_and, and_true, true_or, or_true, not_true_eq_false, not_false_eq_true, false_imp_iff, true_imp_iff, implies_true]
  exact rc_loop1 hG h5 hC hn hlc hoc hW hCb hk hl0 hl1 hV hD hO G.1 0 w vs _ _ (by omega) h12 (fun j h => by omega) (fun _ _ => rfl)
