/-! Both sides map alike. Own work. -/
/-- what holds of both sides when they are mapped -/
def MapI (s : Nat → Nat) (w : cx_W) : Prop :=
  ∃ (gt : Nat → Prop) (q pl d F : Nat → Nat) (fo : Nat) (S L B tf tbl mv cn ro pv cel key : Nat → Nat) (Pb P : Nat), CnP (fun x => rowW w 2 x = 0) (s 1) gt pl F fo (s 5) S L B tf d ∧ (∀ g, gt g → ∀ b, b < 2 ^ pl g → wkP (q g) b = ((tbl g).testBit b).toNat) ∧ (∀ g p, gt g → p < pl g → gt (S (F g + p)) → cn (F g + p) = 0 → key (S (F g + p)) < key g) ∧ (∀ g, gt g → rowW w 15 (cel g) = rowW w 62 (cel g)) ∧
    MapC w (s 1) gt pl F fo (s 5) S tbl mv cn ro pv cel Pb P ∧ MapM w (s 1) gt q pl d F fo (s 5) S L B mv cn ro pv cel Pb P
theorem MapC.of {w w1 : cx_W} {n : Nat} {gt : Nat → Prop} {pl F : Nat → Nat} {fo oc : Nat} {S tbl mv cn ro pv cel : Nat → Nat} {Pb P : Nat} (h : MapC w n gt pl F fo oc S tbl mv cn ro pv cel Pb P) (hk : ∀ k, (k = 1 ∨ k = 13 ∨ k = 17 ∨ k = 19 ∨ k = 20 ∨ k = 24 ∨ k = 28 ∨ k = 29 ∨ k = 30 ∨ k = 31 ∨ k = 33 ∨ k = 34 ∨ k = 35 ∨ k = 36 ∨ k = 37 ∨ k = 40 ∨ k = 41 ∨ k = 42) → w1 k = w k) : MapC w1 n gt pl F fo oc S tbl mv cn ro pv cel Pb P := by
  obtain ⟨gs, ch, pn, tb, sr, fg, gm, ct, mr, or_, rw, pw, od, ⟨⟨⟨y1, ⟨y2x, y2⟩, y3, y4, y5, y6, y7, y8, y9, y10⟩, yr⟩, z1, z2, z3, z4, z5, z6⟩, h36, h37, hm, h34, hr, h41, hp, h42, ho, hc⟩ := h
  have t : ∀ k, (k = 1 ∨ k = 13 ∨ k = 17 ∨ k = 19 ∨ k = 20 ∨ k = 24 ∨ k = 28 ∨ k = 29 ∨ k = 30 ∨ k = 31 ∨ k = 33 ∨ k = 34 ∨ k = 35 ∨ k = 36 ∨ k = 37 ∨ k = 40 ∨ k = 41 ∨ k = 42) → ∀ {e : cx_E}, w k = e → w1 k = e := fun k z e y => (hk k z).trans y
  exact ⟨gs, ch, pn, tb, sr, fg, gm, ct, mr, or_, rw, pw, od, ⟨⟨⟨y1, ⟨y2x, t 13 (by decide) y2⟩, t 17 (by decide) y3, t 19 (by decide) y4, t 20 (by decide) y5, t 24 (by decide) y6, t 29 (by decide) y7, t 30 (by decide) y8, t 31 (by decide) y9, t 35 (by decide) y10⟩, yr⟩, t 1 (by decide) z1, t 28 (by decide) z2, z3, t 33 (by decide) z4, z5, t 40 (by decide) z6⟩, t 36 (by decide) h36, t 37 (by decide) h37, hm, t 34 (by decide) h34, hr, t 41 (by decide) h41, hp, t 42 (by decide) h42, ho, hc⟩
theorem MapM.of {w w1 : cx_W} {n : Nat} {gt : Nat → Prop} {q pl d F : Nat → Nat} {fo oc : Nat} {S L B mv cn ro pv cel : Nat → Nat} {Pb P : Nat} (h : MapM w n gt q pl d F fo oc S L B mv cn ro pv cel Pb P) (hk : ∀ k, (k = 45 ∨ k = 61 ∨ k = 63 ∨ k = 68 ∨ k = 70 ∨ k = 73 ∨ k = 74 ∨ k = 75 ∨ k = 76 ∨ k = 77 ∨ k = 78 ∨ k = 81) → w1 k = w k) : MapM w1 n gt q pl d F fo oc S L B mv cn ro pv cel Pb P := by
  obtain ⟨pa, dl, ch, gr, so, la_, mr, kp, sr, lr, pr, x0, x1, x2, x5, x7, hW, h45, h81, hm, h76, hkp, h77, hlr, h78, hpr, hc⟩ := h
  exact ⟨pa, dl, ch, gr, so, la_, mr, kp, sr, lr, pr, x0, x1, x2, x5, x7, hW.of fun k z => hk k (by omega), (hk 45 (by decide)).trans h45, (hk 81 (by decide)).trans h81, hm, (hk 76 (by decide)).trans h76, hkp, (hk 77 (by decide)).trans h77, hlr, (hk 78 (by decide)).trans h78, hpr, hc⟩
theorem MapI.of {s s2 : Nat → Nat} {w w1 : cx_W} (h : MapI s w) (e1 : s2 1 = s 1) (e5 : s2 5 = s 5) (hk : ∀ k, ¬ k = 6 ∧ ¬ k = 12 ∧ ¬ k = 49 ∧ ¬ k = 55 → w1 k = w k) : MapI s2 w1 := by
  obtain ⟨gt, q, pl, d, F, fo, S, L, B, tf, tbl, mv, cn, ro, pv, cel, key, Pb, P, a1, a2, a3, a4, a5, a6⟩ := h
  refine ⟨gt, q, pl, d, F, fo, S, L, B, tf, tbl, mv, cn, ro, pv, cel, key, Pb, P, ?_⟩
  rw [e1, e5, rw_k (hk 2 (by omega)), rw_k (hk 15 (by omega)), rw_k (hk 62 (by omega))]
  exact ⟨a1, a2, a3, a4, a5.of fun k z => hk k (by omega), a6.of fun k z => hk k (by omega)⟩
theorem okR_of {w w2 : cx_W} {k : Nat} (h : okR w k) (e : w2 k = w k) : okR w2 k := by
  unfold okR
  rw [e]
  exact h
theorem Shp.updP {w w2 : cx_W} {P : Nat → Prop} (h : Shp w) (hf : ∀ k, ¬ P k → w2 k = w k) (hc : ∀ k, P k → okR w2 k) : Shp w2 := by
  refine ⟨fun k p => ?_, fun k p => ?_, fun k p => ?_⟩
  · by_cases m : P k
    · exact (hc k m).1 p
    · rw [hf k m]; exact h.1 k p
  · by_cases m : P k
    · exact (hc k m).2.1 p
    · rw [hf k m]; exact h.2.1 k p
  · by_cases m : P k
    · exact (hc k m).2.2 p
    · rw [hf k m]; exact h.2.2 k p
/-- the core rows are as they were -/
theorem Bd_same {R R2 : Nat → Nat → Int32} {s s2 : Nat → Nat} (hB : Bd R s) (hs : ∀ k, 1 ≤ k → k ≤ 8 → s2 k = s k) (hk : ∀ k, k < 20 ∨ (45 < k ∧ k < 64) → R2 k = R k) : Bd R2 s2 := by
  refine Bd_now hB (hs 1 (by omega) (by omega)) (hs 2 (by omega) (by omega)) (hs 3 (by omega) (by omega)) (hs 4 (by omega) (by omega)) (hs 5 (by omega) (by omega)) (hs 6 (by omega) (by omega)) (hs 7 (by omega) (by omega)) (by rw [hs 8 (by omega) (by omega)]; exact hB.1.2.2.2.2.2.2.2.1) (fun k z => hk k (by omega)) (fun k z => hk k (by unfold cellK at z; omega)) (fun l hl => by rw [hk 9 (by omega)]; exact (hB.2.2.2.2.1 l hl).2) (fun i hi => ⟨fun z => by rw [hk 49 (by omega)]; exact ((hB.2.2.1 i hi).no z).2.2, fun z l hl e => ?_⟩)
  rw [hk 49 (by omega), hk 9 (by omega), hk 50 (by omega), hs 8 (by omega) (by omega)]
  obtain ⟨_, ⟨l', l1, l2, l3, l4, l5, _⟩, _⟩ := (hB.2.2.1 i hi).la z
  have n4 := hB.1.2.2.2.1
  have el : l = l' := (nI_eq (by omega) (by omega)).mp (e.symm.trans l2)
  rw [el]
  exact ⟨l5, l3⟩
set_option maxHeartbeats 8000000 in
theorem c_C_map_un {w : cx_W} {m : Int32} {nc ic lc oc : Nat} {ib pb : Int32} {nn nl dv on : Nat → Int32} (h0 : w 0 = oC m) (hC : CW w nc ic lc oc ib pb nn nl dv on) (hlc : lc ≤ 6) (hu : ∃ l, l < lc ∧ dv l = -1) :
    cx_MC mC_map 12 0 0 [.ref 0] w 87 (fun r w2 => r = some (.int (-3)) ∧ w2 = w) := by
  have h6 := hC.1
  refine cx_met 60 mC_map_ok rfl ?_
  show cx_vc 60 none mC_map 12 0 0 _ _ 0 [some (.ref 0)] [] w (87, 0, 0)
  simp (decide := true) only [BmC_map, h0, h6, EV, EW, CT, ev_o, ev_is, ev_gd, List.length_cons, List.length_nil, Nat.reduceLT, Nat.reduceAdd, Nat.reduceEqDiff, Nat.reduceLeDiff, Int32.reduceLT, Int32.reduceLE, reduceIte, true_and, and_true, true_or, or_true, not_true_eq_false, not_false_eq_true, false_imp_iff, true_imp_iff, implies_true]
  refine cx_cs1 11 0 0 (by decide) (c_Ci_undriven (dd := 11) (b := true) hC hlc ⟨fun _ => hu, fun _ => rfl⟩) fun r w2 h => ?_
  obtain ⟨rfl, rfl⟩ := h
  simp (decide := true) only [BmC_map, EV, EW, CT, ev_o, ev_is, ev_gd, List.length_cons, List.length_nil, Nat.reduceLT, Nat.reduceAdd, Nat.reduceEqDiff, Nat.reduceLeDiff, Int32.reduceLT, Int32.reduceLE, reduceIte, true_and, and_true, true_or, or_true, not_true_eq_false, not_false_eq_true, false_imp_iff, true_imp_iff, implies_true]
set_option maxHeartbeats 8000000 in
theorem c_C_map_ri {w : cx_W} {G : Gr} {m : Int32} {nc ic lc oc : Nat} {ib pb : Int32} {nn nl dv on od : Nat → Int32} {drv ol : Nat → Nat} (h0 : w 0 = oC m) (hG : GW w G) (hn : G.1 ≤ 48) (h5 : w 5 = ai 48 od) (hC : CW w nc ic lc oc ib pb nn nl dv on) (hlc : lc ≤ 6) (hu : ¬ ∃ l, l < lc ∧ dv l = -1) (hD : DrvC G lc nn dv od drv ol) (hr : ¬ ∀ l, l < lc → laN G (fol (laN G) (fun x => drv (ol x)) lc (drv l)) = false) :
    cx_MC mC_map 12 0 0 [.ref 0] w 87 (fun r w2 => r = some (.int (-4)) ∧ w2 = w) := by
  have h6 := hC.1
  refine cx_met 60 mC_map_ok rfl ?_
  show cx_vc 60 none mC_map 12 0 0 _ _ 0 [some (.ref 0)] [] w (87, 0, 0)
  simp (decide := true) only [BmC_map, h0, h6, EV, EW, CT, ev_o, ev_is, ev_gd, List.length_cons, List.length_nil, Nat.reduceLT, Nat.reduceAdd, Nat.reduceEqDiff, Nat.reduceLeDiff, Int32.reduceLT, Int32.reduceLE, reduceIte, true_and, and_true, true_or, or_true, not_true_eq_false, not_false_eq_true, false_imp_iff, true_imp_iff, implies_true]
  refine cx_cs1 11 0 0 (by decide) (c_Ci_undriven (dd := 11) (b := false) hC hlc ⟨fun z => (by cases z), fun z => absurd z hu⟩) fun r w2 h => ?_
  obtain ⟨rfl, rfl⟩ := h
  simp (decide := true) only [BmC_map, h0, h6, EV, EW, CT, ev_o, ev_is, ev_gd, List.length_cons, List.length_nil, Nat.reduceLT, Nat.reduceAdd, Nat.reduceEqDiff, Nat.reduceLeDiff, Int32.reduceLT, Int32.reduceLE, reduceIte, true_and, and_true, true_or, or_true, not_true_eq_false, not_false_eq_true, false_imp_iff, true_imp_iff, implies_true]
  refine cx_cs1 11 0 0 (by decide) (c_Ci_ring (dd := 10) (b := true) hG hn h5 hC hlc hD ⟨fun z => (by cases z), fun z => absurd z hr⟩) fun r w2 h => ?_
  obtain ⟨rfl, rfl⟩ := h
  simp (decide := true) only [BmC_map, EV, EW, CT, ev_o, ev_is, ev_gd, List.length_cons, List.length_nil, Nat.reduceLT, Nat.reduceAdd, Nat.reduceEqDiff, Nat.reduceLeDiff, Int32.reduceLT, Int32.reduceLE, reduceIte, true_and, and_true, true_or, or_true, not_true_eq_false, not_false_eq_true, false_imp_iff, true_imp_iff, implies_true]
set_option maxHeartbeats 8000000 in
theorem c_C_map_li {w : cx_W} {G : Gr} {m : Int32} {nc ic lc oc cc : Nat} {ib pb : Int32} {nn nl dv on od pa ar dl pn nd tb : Nat → Int32} {drv ol : Nat → Nat} (h0 : w 0 = oC m) (hG : GW w G) (hn : G.1 ≤ 48) (h5 : w 5 = ai 48 od) (hC : CW w nc ic lc oc ib pb nn nl dv on) (hlc : lc ≤ 6) (hu : ¬ ∃ l, l < lc ∧ dv l = -1) (hD : DrvC G lc nn dv od drv ol) (hr : ∀ l, l < lc → laN G (fol (laN G) (fun x => drv (ol x)) lc (drv l)) = false) (hL : LW w cc pa ar dl pn nd tb) (hcc : cc ≤ 8) (hc : ¬ ((∃ l, l < cc ∧ pa l = 6) ∧ ∃ l, l < cc ∧ pa l = 23)) :
    cx_MC mC_map 12 0 0 [.ref 0] w 87 (fun r w2 => r = some (.int (-5)) ∧ w2 = w) := by
  have h6 := hC.1
  have h13 := hL.1
  refine cx_met 60 mC_map_ok rfl ?_
  show cx_vc 60 none mC_map 12 0 0 _ _ 0 [some (.ref 0)] [] w (87, 0, 0)
  simp (decide := true) only [BmC_map, h0, h6, EV, EW, CT, ev_o, ev_is, ev_gd, List.length_cons, List.length_nil, Nat.reduceLT, Nat.reduceAdd, Nat.reduceEqDiff, Nat.reduceLeDiff, Int32.reduceLT, Int32.reduceLE, reduceIte, true_and, and_true, true_or, or_true, not_true_eq_false, not_false_eq_true, false_imp_iff, true_imp_iff, implies_true]
  refine cx_cs1 11 0 0 (by decide) (c_Ci_undriven (dd := 11) (b := false) hC hlc ⟨fun z => (by cases z), fun z => absurd z hu⟩) fun r w2 h => ?_
  obtain ⟨rfl, rfl⟩ := h
  simp (decide := true) only [BmC_map, h0, h6, EV, EW, CT, ev_o, ev_is, ev_gd, List.length_cons, List.length_nil, Nat.reduceLT, Nat.reduceAdd, Nat.reduceEqDiff, Nat.reduceLeDiff, Int32.reduceLT, Int32.reduceLE, reduceIte, true_and, and_true, true_or, or_true, not_true_eq_false, not_false_eq_true, false_imp_iff, true_imp_iff, implies_true]
  refine cx_cs1 11 0 0 (by decide) (c_Ci_ring (dd := 10) (b := false) hG hn h5 hC hlc hD ⟨fun _ => hr, fun _ => rfl⟩) fun r w2 h => ?_
  obtain ⟨rfl, rfl⟩ := h
  simp (decide := true) only [BmC_map, h0, h13, EV, EW, CT, ev_o, ev_is, ev_gd, List.length_cons, List.length_nil, Nat.reduceLT, Nat.reduceAdd, Nat.reduceEqDiff, Nat.reduceLeDiff, Int32.reduceLT, Int32.reduceLE, reduceIte, true_and, and_true, true_or, or_true, not_true_eq_false, not_false_eq_true, false_imp_iff, true_imp_iff, implies_true]
  refine cx_cs1 11 0 0 (by decide) (c_Li_covers (b := false) hL hcc ⟨fun z => (by cases z), fun z => absurd z hc⟩) fun r w2 h => ?_
  obtain ⟨rfl, rfl⟩ := h
  simp (decide := true) only [BmC_map, EV, EW, CT, ev_o, ev_is, ev_gd, List.length_cons, List.length_nil, Nat.reduceLT, Nat.reduceAdd, Nat.reduceEqDiff, Nat.reduceLeDiff, Int32.reduceLT, Int32.reduceLE, reduceIte, true_and, and_true, true_or, or_true, not_true_eq_false, not_false_eq_true, false_imp_iff, true_imp_iff, implies_true]
/-- the reference's refusals -/
def MrP (w : cx_W) (H : Gr) (nc : Nat) (so na dr no : Nat → Int32) (x1 x2 x4 x6 x7 x8 x9 : Int32) (cc : Nat) (pa : Nat → Int32) : Prop :=
  w 45 = oM (nI nc) x1 x2 (nI H.1) x4 (nI cc) x6 x7 x8 x9 ∧ w 46 = ai 40 so ∧ w 47 = ai 40 na ∧ w 50 = ai 40 dr ∧ w 56 = ai 48 H.2.1 ∧ w 59 = ai 48 no ∧ w 61 = ai 8 pa ∧ H.1 ≤ 48 ∧ nc ≤ 40 ∧ cc ≤ 8
set_option maxHeartbeats 8000000 in
theorem c_M_map_un {w : cx_W} {H : Gr} {nc cc : Nat} {so na dr no pa : Nat → Int32} {x1 x2 x4 x6 x7 x8 x9 : Int32} (h : MrP w H nc so na dr no x1 x2 x4 x6 x7 x8 x9 cc pa) (hu : ∃ i, i < nc ∧ so i = 1 ∧ dr i < 0) :
    cx_MC mM_map 12 0 0 [.ref 45] w 87 (fun r w2 => r = some (.int (-3)) ∧ w2 = w) := by
  obtain ⟨h45, h46, h47, h50, h56, h59, h61, hn, hnc, hcc⟩ := h
  refine cx_met 60 mM_map_ok rfl ?_
  show cx_vc 60 none mM_map 12 0 0 _ _ 0 [some (.ref 45)] [] w (87, 0, 0)
  simp (decide := true) only [BmM_map, h45, EV, EW, CT, ev_o, ev_is, ev_gd, List.length_cons, List.length_nil, Nat.reduceLT, Nat.reduceAdd, Nat.reduceEqDiff, Nat.reduceLeDiff, Int32.reduceLT, Int32.reduceLE, reduceIte, true_and, and_true, true_or, or_true, not_true_eq_false, not_false_eq_true, false_imp_iff, true_imp_iff, implies_true]
  refine cx_cs1 11 0 0 (by decide) (c_M_undriven (dd := 11) (b := true) h45 h46 h50 hnc ⟨fun _ => hu, fun _ => rfl⟩) fun r w2 h => ?_
  obtain ⟨rfl, rfl⟩ := h
  simp (decide := true) only [BmM_map, EV, EW, CT, ev_o, ev_is, ev_gd, List.length_cons, List.length_nil, Nat.reduceLT, Nat.reduceAdd, Nat.reduceEqDiff, Nat.reduceLeDiff, Int32.reduceLT, Int32.reduceLE, reduceIte, true_and, and_true, true_or, or_true, not_true_eq_false, not_false_eq_true, false_imp_iff, true_imp_iff, implies_true]
set_option maxHeartbeats 8000000 in
theorem c_M_map_ri {w : cx_W} {H : Gr} {nc cc : Nat} {so na dr no pa : Nat → Int32} {x1 x2 x4 x6 x7 x8 x9 : Int32} {nx nd : Nat → Nat} (h : MrP w H nc so na dr no x1 x2 x4 x6 x7 x8 x9 cc pa) (hu : ¬ ∃ i, i < nc ∧ so i = 1 ∧ dr i < 0) (hD : DrvM H na dr no nx) (hnd : ∀ j, j < nc → na j = nI (nd j) ∧ nd j < H.1) (hr : ¬ ∀ j, j < nc → laN H (fol (laN H) nx 7 (nd j)) = false) :
    cx_MC mM_map 12 0 0 [.ref 45] w 87 (fun r w2 => r = some (.int (-4)) ∧ w2 = w) := by
  obtain ⟨h45, h46, h47, h50, h56, h59, h61, hn, hnc, hcc⟩ := h
  refine cx_met 60 mM_map_ok rfl ?_
  show cx_vc 60 none mM_map 12 0 0 _ _ 0 [some (.ref 45)] [] w (87, 0, 0)
  simp (decide := true) only [BmM_map, h45, EV, EW, CT, ev_o, ev_is, ev_gd, List.length_cons, List.length_nil, Nat.reduceLT, Nat.reduceAdd, Nat.reduceEqDiff, Nat.reduceLeDiff, Int32.reduceLT, Int32.reduceLE, reduceIte, true_and, and_true, true_or, or_true, not_true_eq_false, not_false_eq_true, false_imp_iff, true_imp_iff, implies_true]
  refine cx_cs1 11 0 0 (by decide) (c_M_undriven (dd := 11) (b := false) h45 h46 h50 hnc ⟨fun z => (by cases z), fun z => absurd z hu⟩) fun r w2 h => ?_
  obtain ⟨rfl, rfl⟩ := h
  simp (decide := true) only [BmM_map, h45, EV, EW, CT, ev_o, ev_is, ev_gd, List.length_cons, List.length_nil, Nat.reduceLT, Nat.reduceAdd, Nat.reduceEqDiff, Nat.reduceLeDiff, Int32.reduceLT, Int32.reduceLE, reduceIte, true_and, and_true, true_or, or_true, not_true_eq_false, not_false_eq_true, false_imp_iff, true_imp_iff, implies_true]
  refine cx_cs1 11 0 0 (by decide) (c_M_ring (dd := 11) (b := true) h45 h47 h50 h56 h59 hn hD hnc hnd ⟨fun z => (by cases z), fun z => absurd z hr⟩) fun r w2 h => ?_
  obtain ⟨rfl, rfl⟩ := h
  simp (decide := true) only [BmM_map, EV, EW, CT, ev_o, ev_is, ev_gd, List.length_cons, List.length_nil, Nat.reduceLT, Nat.reduceAdd, Nat.reduceEqDiff, Nat.reduceLeDiff, Int32.reduceLT, Int32.reduceLE, reduceIte, true_and, and_true, true_or, or_true, not_true_eq_false, not_false_eq_true, false_imp_iff, true_imp_iff, implies_true]
set_option maxHeartbeats 8000000 in
theorem c_M_map_li {w : cx_W} {H : Gr} {nc cc : Nat} {so na dr no pa : Nat → Int32} {x1 x2 x4 x6 x7 x8 x9 : Int32} {nx nd : Nat → Nat} (h : MrP w H nc so na dr no x1 x2 x4 x6 x7 x8 x9 cc pa) (hu : ¬ ∃ i, i < nc ∧ so i = 1 ∧ dr i < 0) (hD : DrvM H na dr no nx) (hnd : ∀ j, j < nc → na j = nI (nd j) ∧ nd j < H.1) (hr : ∀ j, j < nc → laN H (fol (laN H) nx 7 (nd j)) = false) (hc : ¬ ((∃ l, l < cc ∧ pa l = 6) ∧ ∃ l, l < cc ∧ pa l = 23)) :
    cx_MC mM_map 12 0 0 [.ref 45] w 87 (fun r w2 => r = some (.int (-5)) ∧ w2 = w) := by
  obtain ⟨h45, h46, h47, h50, h56, h59, h61, hn, hnc, hcc⟩ := h
  refine cx_met 60 mM_map_ok rfl ?_
  show cx_vc 60 none mM_map 12 0 0 _ _ 0 [some (.ref 45)] [] w (87, 0, 0)
  simp (decide := true) only [BmM_map, h45, EV, EW, CT, ev_o, ev_is, ev_gd, List.length_cons, List.length_nil, Nat.reduceLT, Nat.reduceAdd, Nat.reduceEqDiff, Nat.reduceLeDiff, Int32.reduceLT, Int32.reduceLE, reduceIte, true_and, and_true, true_or, or_true, not_true_eq_false, not_false_eq_true, false_imp_iff, true_imp_iff, implies_true]
  refine cx_cs1 11 0 0 (by decide) (c_M_undriven (dd := 11) (b := false) h45 h46 h50 hnc ⟨fun z => (by cases z), fun z => absurd z hu⟩) fun r w2 h => ?_
  obtain ⟨rfl, rfl⟩ := h
  simp (decide := true) only [BmM_map, h45, EV, EW, CT, ev_o, ev_is, ev_gd, List.length_cons, List.length_nil, Nat.reduceLT, Nat.reduceAdd, Nat.reduceEqDiff, Nat.reduceLeDiff, Int32.reduceLT, Int32.reduceLE, reduceIte, true_and, and_true, true_or, or_true, not_true_eq_false, not_false_eq_true, false_imp_iff, true_imp_iff, implies_true]
  refine cx_cs1 11 0 0 (by decide) (c_M_ring (dd := 11) (b := false) h45 h47 h50 h56 h59 hn hD hnc hnd ⟨fun _ => hr, fun _ => rfl⟩) fun r w2 h => ?_
  obtain ⟨rfl, rfl⟩ := h
  simp (decide := true) only [BmM_map, h45, EV, EW, CT, ev_o, ev_is, ev_gd, List.length_cons, List.length_nil, Nat.reduceLT, Nat.reduceAdd, Nat.reduceEqDiff, Nat.reduceLeDiff, Int32.reduceLT, Int32.reduceLE, reduceIte, true_and, and_true, true_or, or_true, not_true_eq_false, not_false_eq_true, false_imp_iff, true_imp_iff, implies_true]
  by_cases c1 : ∃ l, l < cc ∧ pa l = 6
  · refine cx_cs1 11 0 0 (by decide) (c_M_hasCell (dd := 11) (b := true) h45 h61 hcc ⟨fun _ => c1, fun _ => rfl⟩) fun r w2 h => ?_
    obtain ⟨rfl, rfl⟩ := h
    simp (decide := true) only [BmM_map, h45, EV, EW, CT, ev_o, ev_is, ev_gd, List.length_cons, List.length_nil, Nat.reduceLT, Nat.reduceAdd, Nat.reduceEqDiff, Nat.reduceLeDiff, Int32.reduceLT, Int32.reduceLE, reduceIte, true_and, and_true, true_or, or_true, not_true_eq_false, not_false_eq_true, false_imp_iff, true_imp_iff, implies_true]
    refine cx_cs1 11 0 0 (by decide) (c_M_hasCell (dd := 11) (b := false) h45 h61 hcc ⟨fun z => (by cases z), fun z => absurd ⟨c1, z⟩ hc⟩) fun r w2 h => ?_
    obtain ⟨rfl, rfl⟩ := h
    simp (decide := true) only [BmM_map, EV, EW, CT, ev_o, ev_is, ev_gd, List.length_cons, List.length_nil, Nat.reduceLT, Nat.reduceAdd, Nat.reduceEqDiff, Nat.reduceLeDiff, Int32.reduceLT, Int32.reduceLE, reduceIte, true_and, and_true, true_or, or_true, not_true_eq_false, not_false_eq_true, false_imp_iff, true_imp_iff, implies_true]
  · refine cx_cs1 11 0 0 (by decide) (c_M_hasCell (dd := 11) (b := false) h45 h61 hcc ⟨fun z => (by cases z), fun z => absurd z c1⟩) fun r w2 h => ?_
    obtain ⟨rfl, rfl⟩ := h
    simp (decide := true) only [BmM_map, EV, EW, CT, ev_o, ev_is, ev_gd, List.length_cons, List.length_nil, Nat.reduceLT, Nat.reduceAdd, Nat.reduceEqDiff, Nat.reduceLeDiff, Int32.reduceLT, Int32.reduceLE, reduceIte, true_and, and_true, true_or, or_true, not_true_eq_false, not_false_eq_true, false_imp_iff, true_imp_iff, implies_true]
set_option maxHeartbeats 8000000 in
theorem P_map {w : cx_W} (h : Inv MapI w) : PairI 10 187 [] w (Inv MapI) := by
  have hI := h
  obtain ⟨s, X, hs0, hS, hO, hB, hM⟩ := h
  have hO' := hO
  obtain ⟨o0, o1, o6, o13, o20, o30, o36, o40, o45⟩ := hO
  obtain ⟨n1, n2, n3, n4, n5, n6, n7, n8, n9⟩ := hB.1
  have e0 : cx_ci (w 0) = some 0 := by rw [o0]; rfl
  have e8 : cx_ci (w 45) = some 8 := by rw [o45]; rfl
  have hG := Inv_G hS o1
  have hC := Inv_C hS o6
  have hL := Inv_L hS o13
  have h5 := hS.i 5 (N := 48) rfl (by decide)
  have hMr : MrP w (grH (rowW w) s) (s 2) (rowW w 46) (rowW w 47) (rowW w 50) (rowW w 59) (nI (s 3)) (nI (s 4)) (nI (s 5)) (nI (s 0)) (X 7) (X 8) (X 9) (s 6) (rowW w 61) :=
    ⟨o45, hS.i 46 rfl (by decide), hS.i 47 rfl (by decide), hS.i 50 rfl (by decide), hS.i 56 rfl (by decide), hS.i 59 rfl (by decide), hS.i 61 rfl (by decide), n1, n2, n6⟩
  by_cases hu : ∃ l, l < s 4 ∧ rowW w 9 l = -1
  · refine ⟨e0, _, c_C_map_un o0 hC n4 hu, fun r w2 h2 => ?_⟩
    obtain ⟨rfl, rfl⟩ := h2
    exact ⟨e8, _, _, rfl, c_M_map_un hMr (hB.undriven.mp hu), fun r2 w3 h3 => ⟨h3.1, h3.2 ▸ hI⟩⟩
  have hu2 : ¬ ∃ i, i < s 2 ∧ rowW w 46 i = 1 ∧ rowW w 50 i < 0 := fun z => hu (hB.undriven.mpr z)
  obtain ⟨d1, d2, d3, d4, d5⟩ := hB.drv hu
  have hnd : ∀ j, j < s 2 → rowW w 47 j = nI (rowW w 7 j).toNatClampNeg ∧ (rowW w 7 j).toNatClampNeg < s 1 := fun j hj => by
    obtain ⟨a1, a2, a3, a4, a5⟩ := hB.node hj
    exact ⟨a5.trans a3, a4⟩
  by_cases hr : ∀ l, l < s 4 → laN (grG (rowW w) s) (fol (laN (grG (rowW w) s)) (fun x => drvF (rowW w) (olF (rowW w) x)) (s 4) (drvF (rowW w) l)) = false
  rotate_left
  · refine ⟨e0, _, c_C_map_ri o0 hG n1 h5 hC n4 hu d1 hr, fun r w2 h2 => ?_⟩
    obtain ⟨rfl, rfl⟩ := h2
    exact ⟨e8, _, _, rfl, c_M_map_ri (nd := fun j => (rowW w2 7 j).toNatClampNeg) hMr hu2 d2 hnd (fun z => hr ((hB.ringM hu).mpr z)), fun r2 w3 h3 => ⟨h3.1, h3.2 ▸ hI⟩⟩
  by_cases hc : (∃ c, c < s 6 ∧ rowW w 14 c = 6) ∧ ∃ c, c < s 6 ∧ rowW w 14 c = 23
  rotate_left
  · refine ⟨e0, _, c_C_map_li o0 hG n1 h5 hC n4 hu d1 hr hL n6 hc, fun r w2 h2 => ?_⟩
    obtain ⟨rfl, rfl⟩ := h2
    have e14 : ∀ c, c < s 6 → rowW w2 61 c = rowW w2 14 c := fun c hc => (hB.2.2.2.2.2.2.2 c hc).1
    exact ⟨e8, _, _, rfl, c_M_map_li (nd := fun j => (rowW w2 7 j).toNatClampNeg) hMr hu2 d2 hnd ((hB.ringM hu).mp hr) (fun ⟨⟨c, c1, c2⟩, ⟨b, b1, b2⟩⟩ => hc ⟨⟨c, c1, (e14 c c1).symm.trans c2⟩, ⟨b, b1, (e14 b b1).symm.trans b2⟩⟩), fun r2 w3 h3 => ⟨h3.1, h3.2 ▸ hI⟩⟩
  obtain ⟨h6, h23⟩ := hc
  obtain ⟨cost, hv⟩ := hB.cover h6 h23
  obtain ⟨g1, g2⟩ := hB.gates hv
  refine ⟨e0, _, c_C_map hS hO' hB hu hr h6 h23 hv, fun r w2 h2 => ?_⟩
  obtain ⟨rfl, a0, ak, aok, F, fo, S, L, B, tf, mv, cn, ro, Pb, P, hP, hCs, hFn, hsm, hMc⟩ := h2
  have a45 := (ak 45 (by omega)).trans o45
  refine ⟨by rw [a45]; rfl, _, _, rfl, c_M_map hS o45 hB (fun k z => ak k (by omega)) hu hr h6 h23 hv hP hCs hFn hsm, fun r2 w3 h3 => ?_⟩
  obtain ⟨rfl, ⟨x7, b45⟩, bk, bok, hMm⟩ := h3
  have hMc3 := hMc.of (w1 := w3) fun k z => bk k (by unfold frX; omega)
  have fr : ∀ k, (0 < k ∧ k < 20) ∨ k = 44 ∨ (45 < k ∧ k < 64) ∨ k = 84 ∨ k = 85 ∨ 86 < k → w3 k = w k := fun k z => (bk k (by unfold frX; omega)).trans (ak k (by omega))
  obtain ⟨gs, ch, pn, tb, sr, fg, gm, ct, mr, or_, rw, pw, od, ⟨⟨⟨y1, y2, y3, y4, y5, y6, y7, y8, y9, y10⟩, yr⟩, z1, z2, z3, z4, z5, z6⟩, h36, hrest⟩ := id hMc3
  refine ⟨rfl, sN 1 (s 1) (s 2) (s 3) (s 4) (s 5) (s 6) (s 7) (s 8), fun k => if k = 0 then nI (rt_cnt (gtW (rowW w) s cost) (s 1)) else if k = 1 then nI fo else if k = 2 then nI (fo + s 5) else if k = 3 then nI Pb else if k = 4 then nI P else if k = 7 then x7 else if k = 8 then nI Pb else nI P, Nat.le_refl _, hS.updP (P := fun k => k = 0 ∨ (20 ≤ k ∧ k ≤ 43) ∨ k = 45 ∨ (64 ≤ k ∧ k ≤ 86 ∧ ¬ k = 84 ∧ ¬ k = 85)) (fun k hk => fr k (by omega)) (fun k hk => ?_), ⟨(bk 0 (by decide)).trans a0, (fr 1 (by omega)).trans o1, (fr 6 (by omega)).trans o6, (fr 13 (by omega)).trans o13, y5, y8, h36, z6, b45⟩, Bd_same hB (fun k h1 h2 => ?_) (fun k z => ?_), fun _ => ?_⟩
  · rcases hk with rfl | ⟨h1, h2⟩ | rfl | ⟨h1, h2, h3, h4⟩
    · exact okR_o rfl rfl rfl
    · exact okR_of (aok k h1 h2) (bk k (by unfold frX; omega))
    · exact okR_o rfl rfl rfl
    · exact bok k h1 h2 h3 h4
  · rcases (show k = 1 ∨ k = 2 ∨ k = 3 ∨ k = 4 ∨ k = 5 ∨ k = 6 ∨ k = 7 ∨ k = 8 by omega) with rfl | rfl | rfl | rfl | rfl | rfl | rfl | rfl <;> rfl
  · by_cases e : k = 0
    · subst e
      unfold rowW
      rw [(bk 0 (by decide)).trans a0, o0]
      rfl
    · exact rw_k (fr k (by omega))
  · refine ⟨gtW (rowW w) s cost, qW (rowW w) s cost, plW (rowW w) s cost, dW (rowW w) s cost, F, fo, S, L, B, tf, tblW (rowW w) s cost, mv, cn, ro, ro, celW (rowW w) s cost, fun g => 48 * mv g + g, Pb, P, ?_, fun g hg b hb => ?_, (hP.key hsm).2, fun g hg => ?_, hMc3, hMm⟩
    · rw [rw_k (fr 2 (by omega))]
      exact hP
    · obtain ⟨y1, y2, y3, y4, y5, y6, y7, y8, y9, y10, y11⟩ := g1 g hg
      rw [y6] at hb
      exact wk_tbl y5 hb
    · rw [rw_k (fr 15 (by omega)), rw_k (fr 62 (by omega))]
      exact ((hB.2.2.2.2.2.2.2 _ (g1 g hg).2.2.2.1).2.1).symm
