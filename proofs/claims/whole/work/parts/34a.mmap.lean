/-! Mapping: the reference's side, the call; what both leave. Own work. -/
def MapM (w : cx_W) (n : Nat) (gt : Nat → Prop) (q pl d F : Nat → Nat) (fo oc : Nat) (S L B mv cn ro pv cel : Nat → Nat) (Pb P : Nat) : Prop :=
  ∃ (pa dl ch gr so la_ mr kp : Nat → Int32) (sr lr pr : Nat → Int64) (x0 x1 x2 x5 x7 : Int32), RmW w n gt q pl d (fun g p => S (F g + p)) (fun g p => L (F g + p)) (fun g p => B (F g + p)) oc (fun o => S (fo + o)) (fun o => L (fo + o)) (fun o => B (fo + o)) pa dl ch gr so la_ sr ∧ w 45 = oM x0 x1 x2 (nI n) (nI oc) x5 1 x7 (nI Pb) (nI P) ∧ w 81 = ai 48 mr ∧ MvR mr mv ∧ w 76 = ai 196 kp ∧ KpR gt pl oc kp (fun g p => cn (F g + p)) (fun o => cn (fo + o)) ∧
    w 77 = al 196 lr ∧ PrR gt pl oc lr (fun g p => cn (F g + p)) (fun g p => ro (F g + p)) (fun o => cn (fo + o)) (fun o => ro (fo + o)) ∧ w 78 = al 196 pr ∧ PrR gt pl oc pr (fun g p => cn (F g + p)) (fun g p => pv (F g + p)) (fun o => cn (fo + o)) (fun o => pv (fo + o)) ∧ ∀ g, gt g → ch g = nI (cel g)
theorem wk_tbl {q b : Nat} (hq : q ∈ pats) (hb : b < 2 ^ pinsP q) : wkP q b = ((tabP q (2 ^ pinsP q)).testBit b).toNat := by
  have h4 := (pat_num hq).2.1
  have h16 : 2 ^ pinsP q ≤ 2 ^ 4 := Nat.pow_le_pow_right (by decide) h4
  have h1 := (pat_all hq (show b < 16 by omega)).1
  have h2 := List.all_eq_true.mp (List.all_eq_true.mp pats_tab q hq) b (List.mem_range.mpr (by omega))
  rw [tb_bool, ← h1]
  exact ((of_decide_eq_true h2) hb).symm
theorem Bd.ringM {R : Nat → Nat → Int32} {s : Nat → Nat} (hB : Bd R s) (hd : ¬ ∃ l, l < s 4 ∧ R 9 l = -1) : (∀ l, l < s 4 → laN (grG R s) (fol (laN (grG R s)) (fun x => drvF R (olF R x)) (s 4) (drvF R l)) = false) ↔ (∀ j, j < s 2 → laN (grH R s) (fol (laN (grH R s)) (nxC (drvF R) (olF R)) 7 (R 7 j).toNatClampNeg) = false) := by
  obtain ⟨d1, d2, d3, d4, d5⟩ := hB.drv hd
  have n4 := hB.1.2.2.2.1
  have laE : ∀ m, m < s 1 → laN (grG R s) m = laN (grH R s) m := fun m hm => by
    unfold laN
    obtain ⟨k1, k2, _⟩ := hB.2.1.1.2 m hm
    rw [k2]
    rcases k1 with z | z | z | z <;> rw [z] <;> decide
  have nxl : ∀ m, m < s 1 → laN (grG R s) m = true → nxC (drvF R) (olF R) m < s 1 := fun m hm hl => (d1.1 _ (d1.2 m hm hl).2).2.2
  have st : ∀ x, x < s 1 → laN (grH R s) (fol (laN (grH R s)) (nxC (drvF R) (olF R)) 7 x) = laN (grG R s) (fol (laN (grG R s)) (nxC (drvF R) (olF R)) 7 x) := fun x hx => by
    obtain ⟨e, l⟩ := chn_congr (fb := fun _ => 0) laE nxl hx 7
    rw [← chn_fol (fb := fun _ => 0), ← chn_fol (fb := fun _ => 0), ← e, laE _ l]
  refine (fol_ring (la := laN (grG R s)) (nx := nxC (drvF R) (olF R)) (drv := drvF R) (nd := fun j => (R 7 j).toNatClampNeg) (lc := s 4) (nc := s 2) n4 (fun l hl hla => ?_) (fun j hj hla => ?_) (fun l hl => ?_)).trans ⟨fun h j hj => ?_, fun h j hj => ?_⟩
  · exact ⟨_, (d1.2 _ (d1.1 l hl).2.2 hla).2, rfl⟩
  · exact ⟨_, (d1.2 _ (hB.node hj).2.2.2.1 hla).2, rfl⟩
  · obtain ⟨i, i1, i2, i3, i4, i5, i6⟩ := d5 l hl
    exact ⟨i, i1, decide_eq_true i5, by unfold nxC; rw [i6]⟩
  · rw [st _ (hB.node hj).2.2.2.1]; exact h j hj
  · have := h j hj
    rw [st _ (hB.node hj).2.2.2.1] at this
    exact this
/-- the frame of the reference's mapping -/
abbrev frX (k : Nat) : Prop := k < 45 ∨ (45 < k ∧ k < 64) ∨ k = 84 ∨ k = 85 ∨ 86 < k
set_option maxHeartbeats 16000000 in
theorem c_M_map {w u : cx_W} {s cost : Nat → Nat} {X : Nat → Int32} (hS : Shp w) (o45 : w 45 = oM (nI (s 2)) (nI (s 3)) (nI (s 4)) (nI (s 1)) (nI (s 5)) (nI (s 6)) (nI (s 0)) (X 7) (X 8) (X 9)) (hB : Bd (rowW w) s) (huk : ∀ k, 43 < k → u k = w k) (hu : ¬ ∃ l, l < s 4 ∧ rowW w 9 l = -1) (hr : ∀ l, l < s 4 → laN (grG (rowW w) s) (fol (laN (grG (rowW w) s)) (fun x => drvF (rowW w) (olF (rowW w) x)) (s 4) (drvF (rowW w) l)) = false) (h6 : ∃ c, c < s 6 ∧ rowW w 14 c = 6) (h23 : ∃ c, c < s 6 ∧ rowW w 14 c = 23) (hv : CovA (grG (rowW w) s) (kdF (rowW w)) (pxF (rowW w)) (pyF (rowW w)) (needF (rowW w) s) (pF (rowW w)) (aF (rowW w)) (s 6) cost)
    {F : Nat → Nat} {fo : Nat} {S L B tf mv cn ro : Nat → Nat} {Pb P : Nat} (hP : CnP (fun x => rowW w 2 x = 0) (s 1) (gtW (rowW w) s cost) (plW (rowW w) s cost) F fo (s 5) S L B tf (dW (rowW w) s cost)) (hCs : CnS (gtW (rowW w) s cost) (plW (rowW w) s cost) F fo (s 5) S L B (pinW (rowW w) s cost) (ondF (rowW w)) (chF (rowW w) s)) (hFn : FnD (s 1) (gtW (rowW w) s cost) (plW (rowW w) s cost) F S L (dW (rowW w) s cost) mv Pb P) (hsm : SM fo (s 5) (plW (rowW w) s cost) F S L B (tblW (rowW w) s cost) tf mv cn ro) :
    cx_MC mM_map 12 0 0 [.ref 45] u 87 (fun r_ w2 => r_ = some (.int (nI (rt_cnt (gtW (rowW w) s cost) (s 1)))) ∧ (∃ x7, w2 45 = oM (nI (s 2)) (nI (s 3)) (nI (s 4)) (nI (s 1)) (nI (s 5)) (nI (s 6)) 1 x7 (nI Pb) (nI P)) ∧ (∀ k, frX k → w2 k = u k) ∧ (∀ k, 64 ≤ k → k ≤ 86 → ¬ k = 84 → ¬ k = 85 → okR w2 k) ∧
      MapM w2 (s 1) (gtW (rowW w) s cost) (qW (rowW w) s cost) (plW (rowW w) s cost) (dW (rowW w) s cost) F fo (s 5) S L B mv cn ro ro (celW (rowW w) s cost) Pb P) := by
  obtain ⟨n1, n2, n3, n4, n5, n6, n7, n8, n9⟩ := hB.1
  obtain ⟨d1, d2, d3, d4, d5⟩ := hB.drv hu
  obtain ⟨q1, q2, q3⟩ := hB.outs
  obtain ⟨_, hK⟩ := hB.gk
  obtain ⟨hCe, hCm, hCe3⟩ := hB.cells
  obtain ⟨hch, hch7, hfb⟩ := hB.chain hu hr
  obtain ⟨g1, g2⟩ := hB.gates hv
  have H := hP.H
  have u45 := (huk 45 (by omega)).trans o45
  have ui : ∀ k, 43 < k → ∀ {N : Nat}, ilN k = N → 0 < N → u k = ai N (rowW w k) := fun k hk {N} e p => (huk k hk).trans (hS.i k e p)
  have u46 : u 46 = ai 40 (rowW w 46) := ui 46 (by omega) rfl (by decide)
  have u47 : u 47 = ai 40 (rowW w 47) := ui 47 (by omega) rfl (by decide)
  have u48 : u 48 = ai 40 (rowW w 48) := ui 48 (by omega) rfl (by decide)
  have u50 : u 50 = ai 40 (rowW w 50) := ui 50 (by omega) rfl (by decide)
  have u56 : u 56 = ai 48 (rowW w 56) := ui 56 (by omega) rfl (by decide)
  have u57 : u 57 = ai 48 (rowW w 57) := ui 57 (by omega) rfl (by decide)
  have u58 : u 58 = ai 48 (rowW w 58) := ui 58 (by omega) rfl (by decide)
  have u59 : u 59 = ai 48 (rowW w 59) := ui 59 (by omega) rfl (by decide)
  have u60 : u 60 = ai 4 (rowW w 60) := ui 60 (by omega) rfl (by decide)
  have u61 : u 61 = ai 8 (rowW w 61) := ui 61 (by omega) rfl (by decide)
  have u62 : u 62 = ai 8 (rowW w 62) := ui 62 (by omega) rfl (by decide)
  have u63 : u 63 = ai 8 (rowW w 63) := ui 63 (by omega) rfl (by decide)
  have e14 : ∀ c, c < s 6 → rowW w 61 c = rowW w 14 c := fun c hc => (hB.2.2.2.2.2.2.2 c hc).1
  refine cx_met 60 mM_map_ok rfl ?_
  show cx_vc 60 none mM_map 12 0 0 _ _ 0 [some (.ref 45)] [] u (87, 0, 0)
  simp (decide := true) only [BmM_map, u45, EV, EW, CT, ev_o, ev_is, ev_gd, List.length_cons, List.length_nil, Nat.reduceLT, Nat.reduceAdd, Nat.reduceEqDiff, Nat.reduceLeDiff, Int32.reduceLT, Int32.reduceLE, reduceIte, true_and, and_true, true_or, or_true, not_true_eq_false, not_false_eq_true, false_imp_iff, true_imp_iff, implies_true]
  refine cx_cs1 11 0 0 (by decide) (c_M_undriven (dd := 11) (b := false) u45 u46 u50 n2 ⟨fun z => (by cases z), fun z => absurd (hB.undriven.mpr z) hu⟩) fun r wa h => ?_
  obtain ⟨rfl, rfl⟩ := h
  simp (decide := true) only [BmM_map, u45, EV, EW, CT, ev_o, ev_is, ev_gd, List.length_cons, List.length_nil, Nat.reduceLT, Nat.reduceAdd, Nat.reduceEqDiff, Nat.reduceLeDiff, Int32.reduceLT, Int32.reduceLE, reduceIte, true_and, and_true, true_or, or_true, not_true_eq_false, not_false_eq_true, false_imp_iff, true_imp_iff, implies_true]
  refine cx_cs1 11 0 0 (by decide) (c_M_ring (H := grH (rowW w) s) (dd := 11) (b := false) (nd := fun j => (rowW w 7 j).toNatClampNeg) u45 u47 u50 u56 u59 n1 d2 n2 (fun j hj => ?_) ⟨fun _ => (hB.ringM hu).mp hr, fun _ => rfl⟩) fun r wb h => ?_
  · obtain ⟨a1, a2, a3, a4, a5⟩ := hB.node hj
    exact ⟨a5.trans a3, a4⟩
  obtain ⟨rfl, rfl⟩ := h
  simp (decide := true) only [BmM_map, u45, EV, EW, CT, ev_o, ev_is, ev_gd, List.length_cons, List.length_nil, Nat.reduceLT, Nat.reduceAdd, Nat.reduceEqDiff, Nat.reduceLeDiff, Int32.reduceLT, Int32.reduceLE, reduceIte, true_and, and_true, true_or, or_true, not_true_eq_false, not_false_eq_true, false_imp_iff, true_imp_iff, implies_true]
  refine cx_cs1 11 0 0 (by decide) (c_M_hasCell (dd := 11) (b := true) u45 u61 n6 ⟨fun _ => by obtain ⟨c, c1, c2⟩ := h6; exact ⟨c, c1, (e14 c c1).trans c2⟩, fun _ => rfl⟩) fun r wc h => ?_
  obtain ⟨rfl, rfl⟩ := h
  simp (decide := true) only [BmM_map, u45, EV, EW, CT, ev_o, ev_is, ev_gd, List.length_cons, List.length_nil, Nat.reduceLT, Nat.reduceAdd, Nat.reduceEqDiff, Nat.reduceLeDiff, Int32.reduceLT, Int32.reduceLE, reduceIte, true_and, and_true, true_or, or_true, not_true_eq_false, not_false_eq_true, false_imp_iff, true_imp_iff, implies_true]
  refine cx_cs1 11 0 0 (by decide) (c_M_hasCell (dd := 11) (b := true) u45 u61 n6 ⟨fun _ => by obtain ⟨c, c1, c2⟩ := h23; exact ⟨c, c1, (e14 c c1).trans c2⟩, fun _ => rfl⟩) fun r wd h => ?_
  obtain ⟨rfl, rfl⟩ := h
  simp (decide := true) only [BmM_map, u45, EV, EW, CT, ev_o, ev_is, ev_gd, List.length_cons, List.length_nil, Nat.reduceLT, Nat.reduceAdd, Nat.reduceEqDiff, Nat.reduceLeDiff, Int32.reduceLT, Int32.reduceLE, reduceIte, true_and, and_true, true_or, or_true, not_true_eq_false, not_false_eq_true, false_imp_iff, true_imp_iff, implies_true]
  refine cx_cs1 11 0 0 (by decide) (c_M_cover (H := grH (rowW w) s) (kd := kdF (rowW w)) (px := pxF (rowW w)) (py := pyF (rowW w)) (need := needF (rowW w) s) (p := pF (rowW w)) (A := aF (rowW w)) (cost := cost) (nx := nxC (drvF (rowW w)) (olF (rowW w))) (fb := fbC (s 7) (olF (rowW w))) (ond := ondF (rowW w)) (dn := dnF (rowW w)) ⟨u47, u48, u50, u56, u59, n1, hK, d2, hfb⟩ u45 u46 u57 u58 u60 u61 u62 ⟨(huk 64 (by omega)).trans (hS.z 64 rfl (by decide)), (huk 65 (by omega)).trans (hS.z 65 rfl (by decide)), (huk 70 (by omega)).trans (hS.z 70 rfl (by decide)), ui 66 (by omega) rfl (by decide)⟩ (ui 67 (by omega) rfl (by decide)) (ui 68 (by omega) rfl (by decide)) (ui 69 (by omega) rfl (by decide)) (ui 71 (by omega) rfl (by decide)) (ui 72 (by omega) rfl (by decide)) (ui 73 (by omega) rfl (by decide)) (ui 74 (by omega) rfl (by decide)) ((huk 75 (by omega)).trans (hS.l 75 rfl (by decide))) n2 n5 n6 d3 q2 (fun j => ?_) hCm hv) fun r w1 h => ?_
  · rw [needF_iff]
    refine or_congr Iff.rfl ⟨fun ⟨l, l1, l2⟩ => ?_, fun ⟨i, i1, i2, i3⟩ => ?_⟩
    · obtain ⟨i, i1, i2, i3, _⟩ := d5 l l1
      exact ⟨i, i1, i2, i3.trans l2⟩
    · obtain ⟨l, l1, l2⟩ := d4 i i1 i2
      exact ⟨l, l1, l2.symm.trans i3⟩
  obtain ⟨rfl, ⟨gr, so, la_, st, a70, a73, a74, a75, hgr, ⟨hsr1, hsr2⟩, hso, hse⟩, ⟨cs, ch, sp, lp, op, x7, a45, a67, a68, a69, a71, a72, hA⟩, ⟨lv, rr, rd, a64, a65, a66⟩, ak⟩ := h
  have ak : ∀ k, (k < 45 ∨ (45 < k ∧ k < 64) ∨ 75 < k) → w1 k = wd k := fun k z => ak k (by unfold fr8 fr7 fr6 fr4; omega)
  have pin_lt : ∀ g p, gtW (rowW w) s cost g → p < plW (rowW w) s cost g → pinI (pinW (rowW w) s cost g) p < s 1 := fun g p hg hp => by
    have y := ((g1 g hg).2.2.2.2.2.2.2.2.1 _ (pinI_mem hp)).1
    have := (g1 g hg).1
    omega
  have hW1 : RmW w1 (s 1) (gtW (rowW w) s cost) (qW (rowW w) s cost) (plW (rowW w) s cost) (dW (rowW w) s cost) (fun g p => S (F g + p)) (fun g p => L (F g + p)) (fun g p => B (F g + p)) (s 5) (fun o => S (fo + o)) (fun o => L (fo + o)) (fun o => B (fo + o)) (rowW w 61) (rowW w 63) ch gr so la_ st := by
    refine ⟨⟨n1, n5, (ak 61 (by omega)).trans u61, (ak 63 (by omega)).trans u63, a68, a70, a73, a74, a75⟩, hgr, fun g hg => ?_, dW_le _ _ _, fun g p hg hp => ?_, fun e he hne => ?_, fun o ho => ?_, hse⟩
    · obtain ⟨y1, y2, y3, y4, y5, y6, y7, y8, y9, y10, y11⟩ := g1 g hg
      rw [y11] at y10
      have hc := ((hA g y1 y2 y3).2 _ _ _ y10).1
      exact ⟨y1, y5, y6, _, by omega, hc, (hCm _ y4).2.1, by rw [(hCe3 _ y4).2.2.1, y8]⟩
    · have hl := hP.lt hg hp
      obtain ⟨z1, z2, z3, z4⟩ := hP.2.2.2.2.1 (F g + p) (by omega)
      obtain ⟨c1, c2, c3⟩ := hCs.1 g p hg hp
      obtain ⟨y1, y2, y3⟩ := hsr1 g (Nat.zero_le _) hg p hp
      have e7 := hch7 _ (pin_lt g p hg hp)
      have y1 : so (4 * g + p) = nI (chn (laN (grH (rowW w) s)) (nxC (drvF (rowW w)) (olF (rowW w))) (fbC (s 7) (olF (rowW w))) (pinI (pinW (rowW w) s cost g) p) 7).1 := y1
      have y2 : la_ (4 * g + p) = nI (chn (laN (grH (rowW w) s)) (nxC (drvF (rowW w)) (olF (rowW w))) (fbC (s 7) (olF (rowW w))) (pinI (pinW (rowW w) s cost g) p) 7).2.1 := y2
      have y3 : st (4 * g + p) = lN (chn (laN (grH (rowW w) s)) (nxC (drvF (rowW w)) (olF (rowW w))) (fbC (s 7) (olF (rowW w))) (pinI (pinW (rowW w) s cost g) p) 7).2.2 := y3
      rw [e7] at y1 y2 y3
      exact ⟨y1.trans (congrArg nI c1.symm), y2.trans (congrArg nI c2.symm), y3.trans (congrArg lN c3.symm), z1, z2, z3⟩
    · exact hsr2 e he fun z => hne ⟨z.2.1, z.2.2⟩
    · obtain ⟨z1, z2, z3, z4⟩ := hP.2.2.2.2.1 (fo + o) (by omega)
      obtain ⟨c1, c2, c3⟩ := hCs.2 o ho
      obtain ⟨y1, y2, y3⟩ := hso o ho
      have ho1 : ondF (rowW w) o < s 1 := by
        obtain ⟨j, j1, j2, j3, j4⟩ := q3 o ho
        rw [j4]; exact (hB.node j1).2.2.2.1
      have e7 := hch7 _ ho1
      have y1 : so (192 + o) = nI (chn (laN (grH (rowW w) s)) (nxC (drvF (rowW w)) (olF (rowW w))) (fbC (s 7) (olF (rowW w))) (ondF (rowW w) o) 7).1 := y1
      have y2 : la_ (192 + o) = nI (chn (laN (grH (rowW w) s)) (nxC (drvF (rowW w)) (olF (rowW w))) (fbC (s 7) (olF (rowW w))) (ondF (rowW w) o) 7).2.1 := y2
      have y3 : st (192 + o) = lN (chn (laN (grH (rowW w) s)) (nxC (drvF (rowW w)) (olF (rowW w))) (fbC (s 7) (olF (rowW w))) (ondF (rowW w) o) 7).2.2 := y3
      rw [e7] at y1 y2 y3
      exact ⟨y1.trans (congrArg nI c1.symm), y2.trans (congrArg nI c2.symm), y3.trans (congrArg lN c3.symm), z1, z2, z3⟩
  simp (decide := true) only [BmM_map, a45, EV, EW, CT, ev_o, ev_is, ev_gd, List.length_cons, List.length_nil, Nat.reduceLT, Nat.reduceAdd, Nat.reduceEqDiff, Nat.reduceLeDiff, Int32.reduceLT, Int32.reduceLE, reduceIte, true_and, and_true, true_or, or_true, not_true_eq_false, not_false_eq_true, false_imp_iff, true_imp_iff, implies_true]
  refine cx_cs1 10 0 0 (by decide) (c_M_measure hW1 H a45 ((ak 79 (by omega)).trans (ui 79 (by omega) rfl (by decide))) ((ak 80 (by omega)).trans (ui 80 (by omega) rfl (by decide)))) fun r w2 h => ?_
  obtain ⟨rfl, fr, sl, Fm, Sm, Pm, b79, b80, hM, hFW, b45, hPb, hPm, bk⟩ := h
  have hW2 := hW1.of (w1 := w2) fun k z => bk k (by unfold frM; omega)
  simp (decide := true) only [BmM_map, b45, EV, EW, CT, ev_o, ev_is, ev_gd, List.length_cons, List.length_nil, Nat.reduceLT, Nat.reduceAdd, Nat.reduceEqDiff, Nat.reduceLeDiff, Int32.reduceLT, Int32.reduceLE, reduceIte, true_and, and_true, true_or, or_true, not_true_eq_false, not_false_eq_true, false_imp_iff, true_imp_iff, implies_true]
  refine cx_cs1 10 0 0 (by decide) (c_M_shorten hW2 H hFW b45 b79 b80 ((bk 81 (by decide)).trans ((ak 81 (by omega)).trans (ui 81 (by omega) rfl (by decide)))) hM hPm hPb) fun r w3 h => ?_
  obtain ⟨rfl, mr, r_, Pr, c45, c81, ck, hmr, hr0, hPr, hBr⟩ := h
  obtain ⟨hBc, m0, m47, T, hT, t1, t2, t3⟩ := id hFn
  obtain ⟨eP, em⟩ := rt_B_unique hBc hBr
  have er : r_ = mv := funext fun x => by
    by_cases g : gtW (rowW w) s cost x
    · have := em x g
      have : (mv x : Int) = (r_ x : Int) := this
      omega
    · rw [hr0 x g, m0 x g]
  subst er
  have ePr : Pr = P := by omega
  subst ePr
  have ePb : Pb = Pm := Pb_link H hFW hT t1 t2 t3 hPb
  subst ePb
  have hW3 := hW2.of (w1 := w3) fun k z => ck k (by omega)
  have ck2 : ∀ k, (k < 45 ∨ (45 < k ∧ k < 64) ∨ (75 < k ∧ ¬ k = 79 ∧ ¬ k = 80 ∧ ¬ k = 81)) → w3 k = wd k := fun k z => (ck k (by omega)).trans ((bk k (by unfold frM; omega)).trans (ak k (by omega)))
  simp (decide := true) only [BmM_map, c45, EV, EW, CT, ev_o, ev_is, ev_gd, List.length_cons, List.length_nil, Nat.reduceLT, Nat.reduceAdd, Nat.reduceEqDiff, Nat.reduceLeDiff, Int32.reduceLT, Int32.reduceLE, reduceIte, true_and, and_true, true_or, or_true, not_true_eq_false, not_false_eq_true, false_imp_iff, true_imp_iff, implies_true]
  refine cx_cs1 10 0 0 (by decide) (c_M_retime (cv := fun g b => (tblW (rowW w) s cost g).testBit b) hW3 c45 c81 hmr m47 m0 (fun g hg b hb => ?_) (fun g p hg hp hz => hP.2.2.2.2.2 g p hg hp hz) (fun g p hg hp gs => (CnP.leg (kz := fun x => rowW w 2 x = 0) (fo := fo) (oc := s 5) (B := B) (tf := tf) hBr hg hp).1 gs) (fun g p hg hp gs => (CnP.leg (kz := fun x => rowW w 2 x = 0) (fo := fo) (oc := s 5) (B := B) (tf := tf) hBr hg hp).2 gs) ((ck2 76 (by omega)).trans (ui 76 (by omega) rfl (by decide))) ((ck2 77 (by omega)).trans ((huk 77 (by omega)).trans (hS.l 77 rfl (by decide)))) ((ck2 78 (by omega)).trans ((huk 78 (by omega)).trans (hS.l 78 rfl (by decide)))) ((ck2 82 (by omega)).trans (ui 82 (by omega) rfl (by decide))) ((ck2 83 (by omega)).trans (ui 83 (by omega) rfl (by decide))) ((ck2 86 (by omega)).trans (ui 86 (by omega) rfl (by decide)))) fun r w4 h => ?_
  · obtain ⟨y1, y2, y3, y4, y5, y6, y7, y8, y9, y10, y11⟩ := g1 g hg
    rw [y6] at hb
    exact wk_tbl y5 hb
  obtain ⟨rfl, kp, ga, gi, op4, lr, pr, e76, e77, e78, e82, e83, e86, ek, hKl⟩ := h
  have e45 := (ek 45 (by decide)).trans c45
  have hW4 := hW3.of (w1 := w4) fun k z => ek k (by unfold frR frG; omega)
  simp (decide := true) only [BmM_map, e45, EV, EW, CT, ev_o, ev_is, ev_gd, List.length_cons, List.length_nil, Nat.reduceLT, Nat.reduceAdd, Nat.reduceEqDiff, Nat.reduceLeDiff, Int32.reduceLT, Int32.reduceLE, reduceIte, true_and, and_true, true_or, or_true, not_true_eq_false, not_false_eq_true, false_imp_iff, true_imp_iff, implies_true]
  refine cx_cs1 11 0 0 (by decide) (c_M_gates (dd := 11) n1 e45 hW4.1.2.2.2.2.2.1 hgr) fun r w5 h => ?_
  obtain ⟨rfl, rfl⟩ := h
  simp (decide := true) only [BmM_map, EV, EW, CT, ev_o, ev_is, ev_gd, List.length_cons, List.length_nil, Nat.reduceLT, Nat.reduceAdd, Nat.reduceEqDiff, Nat.reduceLeDiff, Int32.reduceLT, Int32.reduceLE, reduceIte, true_and, and_true, true_or, or_true, not_true_eq_false, not_false_eq_true, false_imp_iff, true_imp_iff, implies_true]
  have bd := sm_bd hsm (fun u => Nat.le_refl _) m47 (fun e he => (hP.2.2.2.2.1 e he).2.1)
  obtain ⟨key1, _⟩ := hP.key hsm
  -- the rows of both sides are the same
  have kc : ∀ g p, gtW (rowW w) s cost g → p < plW (rowW w) s cost g → kcn (fun g p => S (F g + p)) (fun g p => L (F g + p)) r_ g p = cn (F g + p) ∧ kro (rt_gv (plW (rowW w) s cost) (fun g p => S (F g + p)) (fun g p => L (F g + p)) (fun g p => B (F g + p)) (fun g b => (tblW (rowW w) s cost g).testBit b)) (fun g p => S (F g + p)) (fun g p => L (F g + p)) (fun g p => B (F g + p)) r_ g p = ro (F g + p) := fun g p hg hp => by
    have k1 := key1 g p hg hp
    have hl := hP.lt hg hp
    have e1 : kcn (fun g p => S (F g + p)) (fun g p => L (F g + p)) r_ g p = cn (F g + p) := by
      show L (F g + p) + r_ (S (F g + p)) - r_ g = cn (F g + p)
      omega
    refine ⟨e1, ?_⟩
    obtain ⟨_, h2⟩ := hsm (F g + p) (by omega)
    unfold tkM at h2
    rw [if_pos hl, hP.tf hg hp] at h2
    unfold kro
    rw [e1, h2]
    rfl
  have oc_ : ∀ o, o < s 5 → ocn (fun o => S (fo + o)) (fun o => L (fo + o)) r_ o = cn (fo + o) ∧ oro (rt_gv (plW (rowW w) s cost) (fun g p => S (F g + p)) (fun g p => L (F g + p)) (fun g p => B (F g + p)) (fun g b => (tblW (rowW w) s cost g).testBit b)) (fun o => S (fo + o)) (fun o => L (fo + o)) (fun o => B (fo + o)) r_ o = ro (fo + o) := fun o ho => by
    obtain ⟨h1, h2⟩ := hsm (fo + o) (by omega)
    unfold tkM at h1 h2
    rw [if_neg (by omega)] at h1 h2
    have e1 : ocn (fun o => S (fo + o)) (fun o => L (fo + o)) r_ o = cn (fo + o) := by
      show L (fo + o) + r_ (S (fo + o)) = cn (fo + o)
      omega
    refine ⟨e1, ?_⟩
    unfold oro
    rw [e1, h2]
    rfl
  have ko : ∀ k, (k < 45 ∨ (45 < k ∧ k < 64) ∨ k = 84 ∨ k = 85 ∨ 86 < k) → w5 k = wd k := fun k z => (ek k (by unfold frR frG; omega)).trans (ck2 k (by omega))
  have k1 : ∀ k, 64 ≤ k → k < 76 → w5 k = w1 k := fun k h1 h2 => (ek k (by unfold frR frG; omega)).trans ((ck k (by omega)).trans (bk k (by unfold frM; omega)))
  refine ⟨rfl, ⟨x7, e45⟩, ko, fun k h1 h2 h3 h4 => ?_, ?_⟩
  · rcases (show k = 64 ∨ k = 65 ∨ k = 66 ∨ k = 67 ∨ k = 68 ∨ k = 69 ∨ k = 70 ∨ k = 71 ∨ k = 72 ∨ k = 73 ∨ k = 74 ∨ k = 75 ∨ k = 76 ∨ k = 77 ∨ k = 78 ∨ k = 79 ∨ k = 80 ∨ k = 81 ∨ k = 82 ∨ k = 83 ∨ k = 86 by omega) with rfl | rfl | rfl | rfl | rfl | rfl | rfl | rfl | rfl | rfl | rfl | rfl | rfl | rfl | rfl | rfl | rfl | rfl | rfl | rfl | rfl
    · exact okR_z ((k1 64 (by omega) (by omega)).trans a64) rfl rfl rfl
    · exact okR_z ((k1 65 (by omega) (by omega)).trans a65) rfl rfl rfl
    · exact okR_i ((k1 66 (by omega) (by omega)).trans a66) rfl rfl rfl
    · exact okR_i ((k1 67 (by omega) (by omega)).trans a67) rfl rfl rfl
    · exact okR_i ((k1 68 (by omega) (by omega)).trans a68) rfl rfl rfl
    · exact okR_i ((k1 69 (by omega) (by omega)).trans a69) rfl rfl rfl
    · exact okR_z ((k1 70 (by omega) (by omega)).trans a70) rfl rfl rfl
    · exact okR_i ((k1 71 (by omega) (by omega)).trans a71) rfl rfl rfl
    · exact okR_i ((k1 72 (by omega) (by omega)).trans a72) rfl rfl rfl
    · exact okR_i ((k1 73 (by omega) (by omega)).trans a73) rfl rfl rfl
    · exact okR_i ((k1 74 (by omega) (by omega)).trans a74) rfl rfl rfl
    · exact okR_l ((k1 75 (by omega) (by omega)).trans a75) rfl rfl rfl
    · exact okR_i e76 rfl rfl rfl
    · exact okR_l e77 rfl rfl rfl
    · exact okR_l e78 rfl rfl rfl
    · exact okR_i ((ek 79 (by decide)).trans ((ck 79 (by omega)).trans b79)) rfl rfl rfl
    · exact okR_i ((ek 80 (by decide)).trans ((ck 80 (by omega)).trans b80)) rfl rfl rfl
    · exact okR_i ((ek 81 (by decide)).trans c81) rfl rfl rfl
    · exact okR_i e82 rfl rfl rfl
    · exact okR_i e83 rfl rfl rfl
    · exact okR_i e86 rfl rfl rfl
  · refine ⟨rowW w 61, rowW w 63, ch, gr, so, la_, mr, kp, st, lr, pr, _, _, _, _, x7, hW4, e45, (ek 81 (by decide)).trans c81, hmr, e76, ⟨fun g p hg hp => ?_, fun o ho => ?_⟩, e77, ⟨fun g p hg hp => ?_, fun o ho => ?_⟩, e78, ⟨fun g p hg hp => ?_, fun o ho => ?_⟩, fun g hg => ?_⟩
    · have hl := hP.lt hg hp
      have h4 := (hP.2.1 g hg).2.1
      have hgn := (hP.2.1 g hg).1
      obtain ⟨z1, z2, z3⟩ := hKl.1 g p hg hp (by omega)
      rw [(kc g p hg hp).1] at z1
      refine ⟨z1, ?_⟩
      have k1 := key1 g p hg hp
      have := m47 (S (F g + p))
      have := (hP.2.2.2.2.1 (F g + p) (by omega)).2.1
      show cn (F g + p) ≤ 53
      omega
    · obtain ⟨z1, z2, z3⟩ := hKl.2 o ho (by omega)
      rw [(oc_ o ho).1] at z1
      refine ⟨z1, ?_⟩
      have h1 : L (fo + o) + r_ (S (fo + o)) = cn (fo + o) := (oc_ o ho).1
      have := m47 (S (fo + o))
      have := (hP.2.2.2.2.1 (fo + o) (by omega)).2.1
      show cn (fo + o) ≤ 53
      omega
    · have hl := hP.lt hg hp
      have h4 := (hP.2.1 g hg).2.1
      have hgn := (hP.2.1 g hg).1
      obtain ⟨z1, z2, z3⟩ := hKl.1 g p hg hp (by omega)
      rw [(kc g p hg hp).2] at z2
      exact ⟨z2, (bd _ (by omega)).2⟩
    · obtain ⟨z1, z2, z3⟩ := hKl.2 o ho (by omega)
      rw [(oc_ o ho).2] at z2
      exact ⟨z2, (bd _ (by omega)).2⟩
    · have hl := hP.lt hg hp
      have h4 := (hP.2.1 g hg).2.1
      have hgn := (hP.2.1 g hg).1
      obtain ⟨z1, z2, z3⟩ := hKl.1 g p hg hp (by omega)
      rw [(kc g p hg hp).2] at z3
      exact ⟨z3, (bd _ (by omega)).2⟩
    · obtain ⟨z1, z2, z3⟩ := hKl.2 o ho (by omega)
      rw [(oc_ o ho).2] at z3
      exact ⟨z3, (bd _ (by omega)).2⟩
    · obtain ⟨y1, y2, y3, y4, y5, y6, y7, y8, y9, y10, y11⟩ := g1 g hg
      rw [y11] at y10
      exact ((hA g y1 y2 y3).2 _ _ _ y10).1
