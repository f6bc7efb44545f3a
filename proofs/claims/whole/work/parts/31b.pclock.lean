/-! Both sides clock alike. Own work. -/
set_option maxHeartbeats 8000000 in
theorem c_C_clock_un {w : cx_W} {m inp : Int32} {nc ic lc oc : Nat} {ib pb : Int32} {nn nl dv on : Nat → Int32} (h0 : w 0 = oC m) (hC : CW w nc ic lc oc ib pb nn nl dv on) (hlc : lc ≤ 6) (hu : ∃ l, l < lc ∧ dv l = -1) :
    cx_MC mC_clock 12 0 0 [.ref 0, .int inp] w 87 (fun r w2 => r = some (.int (-3)) ∧ w2 = w) := by
  have h6 := hC.1
  refine cx_met 60 mC_clock_ok rfl ?_
  show cx_vc 60 none mC_clock 12 0 0 _ _ 0 [some (.ref 0), some (.int inp)] [] w (87, 0, 0)
  simp (decide := true) only [BmC_clock, h0, h6, EV, EW, CT, ev_o, ev_is, ev_gd, List.length_cons, List.length_nil, Nat.reduceLT, Nat.reduceAdd, Nat.reduceEqDiff, Nat.reduceLeDiff, Int32.reduceLT, Int32.reduceLE, reduceIte, true_and, and_true, true_or, or_true, not_true_eq_false, not_false_eq_true, false_imp_iff, true_imp_iff, implies_true]
  refine cx_cs1 11 0 0 (by decide) (c_Ci_undriven (dd := 11) (b := true) hC hlc ⟨fun _ => hu, fun _ => rfl⟩) fun r w2 h => ?_
  obtain ⟨rfl, rfl⟩ := h
  simp (decide := true) only [BmC_clock, EV, EW, CT, ev_o, ev_is, ev_gd, List.length_cons, List.length_nil, Nat.reduceLT, Nat.reduceAdd, Nat.reduceEqDiff, Nat.reduceLeDiff, Int32.reduceLT, Int32.reduceLE, reduceIte, true_and, and_true, true_or, or_true, not_true_eq_false, not_false_eq_true, false_imp_iff, true_imp_iff, implies_true]
set_option maxHeartbeats 8000000 in
theorem c_C_clock {w : cx_W} {G : Gr} {m : Int32} {nc ic lc oc C : Nat} {ib inp : Int32} {nn nl dv on od vs : Nat → Int32} {v : Nat → Bool} {drv ol ond : Nat → Nat} (h0 : w 0 = oC m) (hG : GW w G) (h5 : w 5 = ai 48 od) (hC : CW w nc ic lc oc ib (nI C) nn nl dv on) (h12 : w 12 = ai 48 vs) (hn : G.1 ≤ 48) (hlc : lc ≤ 6) (hoc : oc ≤ 4) (hW : WFG 2 3 G) (hCb : C < 2 ^ 31)
    (hk : ∀ m, m < G.1 → G.2.1 m = 0 ∨ G.2.1 m = 1 ∨ G.2.1 m = 2 ∨ G.2.1 m = 3) (hl0 : ∀ m, m < G.1 → G.2.1 m = 0 → ∃ k : Nat, od m = nI k ∧ nI (v m).toNat = inp >>> (nI k &&& 31) &&& 1) (hl1 : ∀ m, m < G.1 → G.2.1 m = 1 → ∃ k : Nat, k < 6 ∧ od m = nI k ∧ v m = C.testBit k) (hV : Vl 2 3 G v) (hD : DrvC G lc nn dv od drv ol) (hO : OutC G oc nn on ond) (hu : ¬ ∃ l, l < lc ∧ dv l = -1) :
    cx_MC mC_clock 12 0 0 [.ref 0, .int inp] w 87 (fun r w2 => r = some (.int (nI (pb (fun o => v (ond o)) oc))) ∧ CW w2 nc ic lc oc ib (nI (pb (fun l => v (drv l)) lc)) nn nl dv on ∧ (∃ vs, w2 12 = ai 48 vs) ∧ ∀ k, ¬ k = 6 ∧ ¬ k = 12 → w2 k = w k) := by
  have h6 := hC.1
  refine cx_met 60 mC_clock_ok rfl ?_
  show cx_vc 60 none mC_clock 12 0 0 _ _ 0 [some (.ref 0), some (.int inp)] [] w (87, 0, 0)
  simp (decide := true) only [BmC_clock, h0, h6, EV, EW, CT, ev_o, ev_is, ev_gd, List.length_cons, List.length_nil, Nat.reduceLT, Nat.reduceAdd, Nat.reduceEqDiff, Nat.reduceLeDiff, Int32.reduceLT, Int32.reduceLE, reduceIte, true_and, and_true, true_or, or_true, not_true_eq_false, not_false_eq_true, false_imp_iff, true_imp_iff, implies_true]
  refine cx_cs1 11 0 0 (by decide) (c_Ci_undriven (dd := 11) (b := false) hC hlc ⟨fun z => (by cases z), fun z => absurd z hu⟩) fun r w2 h => ?_
  obtain ⟨rfl, rfl⟩ := h
  simp (decide := true) only [BmC_clock, h0, h6, EV, EW, CT, ev_o, ev_is, ev_gd, List.length_cons, List.length_nil, Nat.reduceLT, Nat.reduceAdd, Nat.reduceEqDiff, Nat.reduceLeDiff, Int32.reduceLT, Int32.reduceLE, reduceIte, true_and, and_true, true_or, or_true, not_true_eq_false, not_false_eq_true, false_imp_iff, true_imp_iff, implies_true]
  refine cx_cs1 11 0 0 (by decide) (c_Ci_runCycle (dd := 9) hG h5 hC h12 hn hlc hoc hW hCb hk hl0 hl1 hV hD hO) fun r w3 h => ?_
  obtain ⟨rfl, h⟩ := h
  simp (decide := true) only [BmC_clock, EV, EW, CT, ev_o, ev_is, ev_gd, List.length_cons, List.length_nil, Nat.reduceLT, Nat.reduceAdd, Nat.reduceEqDiff, Nat.reduceLeDiff, Int32.reduceLT, Int32.reduceLE, reduceIte, true_and, and_true, true_or, or_true, not_true_eq_false, not_false_eq_true, false_imp_iff, true_imp_iff, implies_true]
  exact h
set_option maxHeartbeats 8000000 in
theorem c_M_clock_un {w : cx_W} {inp : Int32} {nc : Nat} {x1 x2 x3 x4 x5 x6 x7 x8 x9 : Int32} {so dr : Nat → Int32} (h45 : w 45 = oM (nI nc) x1 x2 x3 x4 x5 x6 x7 x8 x9) (h46 : w 46 = ai 40 so) (h50 : w 50 = ai 40 dr) (hnc : nc ≤ 40) (hu : ∃ i, i < nc ∧ so i = 1 ∧ dr i < 0) :
    cx_MC mM_clock 12 0 0 [.ref 45, .int inp] w 87 (fun r w2 => r = some (.int (-3)) ∧ w2 = w) := by
  refine cx_met 60 mM_clock_ok rfl ?_
  show cx_vc 60 none mM_clock 12 0 0 _ _ 0 [some (.ref 45), some (.int inp), none, none, none] [] w (87, 0, 0)
  simp (decide := true) only [BmM_clock, h45, EV, EW, CT, ev_o, ev_is, ev_gd, List.length_cons, List.length_nil, Nat.reduceLT, Nat.reduceAdd, Nat.reduceEqDiff, Nat.reduceLeDiff, Int32.reduceLT, Int32.reduceLE, reduceIte, true_and, and_true, true_or, or_true, not_true_eq_false, not_false_eq_true, false_imp_iff, true_imp_iff, implies_true]
  refine cx_cs1 11 0 0 (by decide) (c_M_undriven (dd := 11) (b := true) h45 h46 h50 hnc ⟨fun _ => hu, fun _ => rfl⟩) fun r w2 h => ?_
  obtain ⟨rfl, rfl⟩ := h
  simp (decide := true) only [BmM_clock, EV, EW, CT, ev_o, ev_is, ev_gd, List.length_cons, List.length_nil, Nat.reduceLT, Nat.reduceAdd, Nat.reduceEqDiff, Nat.reduceLeDiff, Int32.reduceLT, Int32.reduceLE, reduceIte, true_and, and_true, true_or, or_true, not_true_eq_false, not_false_eq_true, false_imp_iff, true_imp_iff, implies_true]
set_option maxHeartbeats 8000000 in
theorem P_clock {M : (Nat → Nat) → cx_W → Prop} {w : cx_W} (hMf : ∀ (s s2 : Nat → Nat) (w w3 : cx_W), M s w → s2 1 = s 1 → s2 5 = s 5 → (∀ k, ¬ k = 6 ∧ ¬ k = 12 ∧ ¬ k = 49 ∧ ¬ k = 55 → w3 k = w k) → M s2 w3) (h : Inv M w) (inp : Int32) : PairI 17 196 [.int inp] w (Inv M) := by
  have hI := h
  obtain ⟨s, X, hs0, hS, ⟨o0, o1, o6, o13, o20, o30, o36, o40, o45⟩, hB, hM⟩ := h
  obtain ⟨n1, n2, n3, n4, n5, n6, n7, n8, n9⟩ := hB.1
  have e0 : cx_ci (w 0) = some 0 := by rw [o0]; rfl
  have e8 : cx_ci (w 45) = some 8 := by rw [o45]; rfl
  have hG := Inv_G hS o1
  have hC := Inv_C hS o6
  by_cases hu : ∃ l, l < s 4 ∧ rowW w 9 l = -1
  · refine ⟨e0, _, c_C_clock_un o0 hC n4 hu, fun r w2 h2 => ?_⟩
    obtain ⟨rfl, rfl⟩ := h2
    exact ⟨e8, _, _, rfl, c_M_clock_un o45 (hS.i 46 rfl (by decide)) (hS.i 50 rfl (by decide)) n2 (hB.undriven.mp hu), fun r2 w3 h3 => ⟨h3.1, h3.2 ▸ hI⟩⟩
  · obtain ⟨v, hv, hv0, hv1⟩ := hB.vals inp
    obtain ⟨d1, d2, d3, d4, d5⟩ := hB.drv hu
    obtain ⟨q1, q2, q3⟩ := hB.outs
    have h64 : 2 ^ s 4 ≤ 2 ^ 6 := Nat.pow_le_pow_right (by decide) n4
    refine ⟨e0, _, c_C_clock (v := v) (C := s 8) o0 hG (hS.i 5 rfl (by decide)) hC (hS.i 12 rfl (by decide)) n1 n4 n5 hB.2.1.2.1 (by omega) (fun m hm => (hB.2.1.1.2 m hm).1) (fun m hm h0 => ?_) (fun m hm h1 => ?_) hv d1 q1 hu, fun r w2 h2 => ?_⟩
    · obtain ⟨i, _, _, i3, i4⟩ := hv0 m hm h0
      exact ⟨_, i3, i4⟩
    · obtain ⟨i, l, _, l1, _, _, _, _, _, l5, l6, _⟩ := hB.latch hm h1
      exact ⟨l, by omega, l5, by rw [hv1 m hm h1, l6]⟩
    obtain ⟨rfl, ⟨a6, a7, a8, a9, a10⟩, ⟨vs2, a12⟩, ak⟩ := h2
    have w_ : ∀ k, ¬ k = 6 ∧ ¬ k = 12 → ∀ {e : cx_E}, w k = e → w2 k = e := fun k z e y => (ak k z).trans y
    have w45 := (ak 45 (by omega)).trans o45
    have nb : ∀ i, i < s 2 → nv (rowW w) v i = v (rowW w 7 i).toNatClampNeg := fun _ _ => rfl
    refine ⟨by rw [w45]; rfl, _, _, rfl, c_M_clock (b := nv (rowW w) v) (f := fun o => v (ondF (rowW w) o)) (nxt := fun i => if rowW w 46 i = 1 then nI (nv (rowW w) v (rowW w 50 i).toNatClampNeg).toNat else 0) w45 (w_ 46 (by omega) (hS.i 46 rfl (by decide))) (w_ 47 (by omega) (hS.i 47 rfl (by decide))) (w_ 49 (by omega) (hS.i 49 rfl (by decide))) (w_ 50 (by omega) (hS.i 50 rfl (by decide))) (w_ 51 (by omega) (hS.i 51 rfl (by decide))) (w_ 52 (by omega) (hS.i 52 rfl (by decide))) (w_ 53 (by omega) (hS.i 53 rfl (by decide))) (w_ 54 (by omega) (hS.i 54 rfl (by decide))) (w_ 55 (by omega) (hS.i 55 rfl (by decide))) (w_ 59 (by omega) (hS.i 59 rfl (by decide))) (w_ 60 (by omega) (hS.i 60 rfl (by decide))) n2 n5 (fun i hi h1 => ?_) (fun i hi => ?_) (fun i hi => ⟨fun h1 => ?_, fun h1 => if_neg h1⟩) (fun o ho => ?_), fun r2 w3 h3 => ?_⟩
    · exact fun z => hu (hB.undriven.mpr ⟨i, hi, h1, z⟩)
    · obtain ⟨a1, a2, a3, a4, a5⟩ := hB.node hi
      rcases (hB.2.2.1 i hi).2.2 with p | p | p
      · obtain ⟨p1, p2, p3, p4, p5, p6, p7⟩ := p
        obtain ⟨i', _, j2, _, j4⟩ := hv0 _ a4 p5
        have e : i' = i := by
          have := hB.1.2.1
          exact (nI_eq (by omega) (by omega)).mp (j2.symm.trans p6)
        subst e
        exact .inl ⟨p1, _, by omega, a5.trans a3, p6, j4.symm⟩
      · refine .inr (.inl ⟨p.1, ?_⟩)
        obtain ⟨p1, ⟨l, l1, l2, l3, l4, l5, l6⟩, p2, p3⟩ := p
        rw [l5]
        unfold nv
        rw [hv1 _ a4 p2, tb_bool]
        unfold olF
        rw [l6, nI_clamp (by omega)]
      · obtain ⟨p1, p2, p3, p4, a, t, y1, y2, y3, y4, y5⟩ := p
        refine .inr (.inr ⟨p1, a, t, y1, y2, y3, y4, ?_⟩)
        rcases y5 with ⟨z1, z2, z3⟩ | ⟨b_, z1, z2, z3⟩
        · exact .inl ⟨z1, z2, z3 v hv⟩
        · refine .inr ⟨b_, z1, z2, ?_⟩
          rcases z3 with ⟨u1, u2⟩ | ⟨c_, u1, u2, u3⟩
          · exact .inl ⟨u1, u2 v hv⟩
          · exact .inr ⟨c_, u1, u2, u3 v hv⟩
    · obtain ⟨_, ⟨l, l1, l2, l3, _⟩, _⟩ := (hB.2.2.1 i hi).la h1
      rcases (hB.2.2.2.2.1 l l1).2 with z | ⟨j, j1, j2⟩
      · exact absurd ⟨l, l1, z⟩ hu
      · refine ⟨j, j1, l3.symm.trans j2, ?_⟩
        rw [if_pos h1, ← l3, j2, (hB.node j1).2.1]
    · obtain ⟨j, j1, j2, j3, j4⟩ := q3 o ho
      exact ⟨j, j1, j3, by rw [j4]; rfl⟩
    obtain ⟨rfl, ⟨nw2, c49, hnw⟩, ⟨vl2, c55⟩, bk⟩ := h3
    have fr : ∀ k, ¬ k = 6 ∧ ¬ k = 12 ∧ ¬ k = 49 ∧ ¬ k = 55 → w3 k = w k := fun k z => (bk k ⟨z.2.2.1, z.2.2.2⟩).trans (ak k ⟨z.1, z.2.1⟩)
    refine ⟨rfl, sN (s 0) (s 1) (s 2) (s 3) (s 4) (s 5) (s 6) (s 7) (pb (fun l => v (drvF (rowW w) l)) (s 4)), X, hs0, hS.upd [6, 12, 49, 55] ?_ ?_, ⟨(fr 0 (by omega)).trans o0, (fr 1 (by omega)).trans o1, (bk 6 (by omega)).trans a6, (fr 13 (by omega)).trans o13, (fr 20 (by omega)).trans o20, (fr 30 (by omega)).trans o30, (fr 36 (by omega)).trans o36, (fr 40 (by omega)).trans o40, (fr 45 (by omega)).trans o45⟩, ?_, fun z => hMf s _ w w3 (hM z) rfl rfl fr⟩
    · intro k hk
      simp only [List.mem_cons, List.not_mem_nil, or_false, not_or] at hk
      exact fr k (by omega)
    · intro k hk
      simp only [List.mem_cons, List.not_mem_nil, or_false] at hk
      rcases hk with rfl | rfl | rfl | rfl
      · exact okR_o rfl rfl rfl
      · exact okR_i ((bk 12 (by omega)).trans a12) rfl rfl rfl
      · exact okR_i c49 rfl rfl rfl
      · exact okR_i c55 rfl rfl rfl
    · refine Bd_now hB rfl rfl rfl rfl rfl rfl rfl (pb_lt _ _) (fun k z => rw_k (fr k (by omega))) (fun k z => rw_k (fr k (by unfold cellK at z; omega))) (fun l hl => ?_) (fun i hi => ⟨fun h1 => ?_, fun h1 l hl e => ⟨?_, ?_⟩⟩)
      · rw [rw_k (fr 9 (by omega))]; exact (hB.2.2.2.2.1 l hl).2
      · rw [rw_i c49, hnw i hi, if_neg h1]
      · rw [rw_i c49, hnw i hi, if_pos h1]
        show _ = nI (pb (fun l => v (drvF (rowW w) l)) (s 4) / 2 ^ l % 2)
        rw [pb_bit hl]
        obtain ⟨_, ⟨l', l1, l2, l3, _⟩, _⟩ := (hB.2.2.1 i hi).la h1
        have el : l = l' := (nI_eq (by omega) (by omega)).mp (e.symm.trans l2)
        subst el
        unfold nv drvF
        rw [l3]
      · rw [rw_k (fr 9 (by omega)), rw_k (fr 50 (by omega))]
        obtain ⟨_, ⟨l', l1, l2, l3, _⟩, _⟩ := (hB.2.2.1 i hi).la h1
        have el : l = l' := (nI_eq (by omega) (by omega)).mp (e.symm.trans l2)
        subst el
        exact l3
