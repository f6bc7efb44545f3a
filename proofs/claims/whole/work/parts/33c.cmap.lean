/-! Mapping: the given side, the call. Own work. -/
/-- what is found: the shortest period and the moves for it; T: the tails before any move -/
def FnD (n : Nat) (gt : Nat → Prop) (pl F : Nat → Nat) (S L d mv : Nat → Nat) (Pb P : Nat) : Prop :=
  rt_B (EE gt pl (fun g p => S (F g + p)) (fun g p => L (F g + p))) (II gt pl (fun g p => S (F g + p)) (fun g p => L (F g + p))) gt d n P (fun u => (mv u : Int)) ∧ (∀ u, ¬ gt u → mv u = 0) ∧ (∀ u, mv u ≤ 47) ∧
  ∃ T : Nat → Int, rt_T (EE gt pl (fun g p => S (F g + p)) (fun g p => L (F g + p))) gt d n (fun _ => 0) T ∧ (∀ u, gt u → T u ≤ Pb) ∧ ((∃ u, gt u) → ∃ u, gt u ∧ (Pb : Int) = T u) ∧ ((¬ ∃ u, gt u) → Pb = 0)
def MvS (w w3 : cx_W) (n : Nat) (gt : Nat → Prop) (pl F : Nat → Nat) (fo oc : Nat) (S L B tbl tf d : Nat → Nat) (Pb P : Nat) (mv : Nat → Nat) : Prop :=
  ∃ (mr tr tl ct : Nat → Int32) (rw : Nat → Int64) (cn ro : Nat → Nat), w3 36 = oRe (nI Pb) (nI P) ∧ w3 37 = ai 48 mr ∧ MvR mr mv ∧ w3 38 = ai 48 tr ∧ w3 39 = ai 48 tl ∧ w3 33 = ai 196 ct ∧ w3 34 = al 196 rw ∧ SM fo oc pl F S L B tbl tf mv cn ro ∧ (∀ e, e < fo + oc → ct e = nI (cn e) ∧ rw e = lN (ro e)) ∧ FnD n gt pl F S L d mv Pb P ∧ ∀ k, (k < 33 ∨ k = 35) ∨ 39 < k → w3 k = w k
set_option maxHeartbeats 16000000 in
theorem c_C_map {w : cx_W} {s cost : Nat → Nat} {X : Nat → Int32} (hS : Shp w) (hO : Obj w s X) (hB : Bd (rowW w) s) (hu : ¬ ∃ l, l < s 4 ∧ rowW w 9 l = -1) (hr : ∀ l, l < s 4 → laN (grG (rowW w) s) (fol (laN (grG (rowW w) s)) (fun x => drvF (rowW w) (olF (rowW w) x)) (s 4) (drvF (rowW w) l)) = false) (h6 : ∃ c, c < s 6 ∧ rowW w 14 c = 6) (h23 : ∃ c, c < s 6 ∧ rowW w 14 c = 23) (hv : CovA (grG (rowW w) s) (kdF (rowW w)) (pxF (rowW w)) (pyF (rowW w)) (needF (rowW w) s) (pF (rowW w)) (aF (rowW w)) (s 6) cost) :
    cx_MC mC_map 12 0 0 [.ref 0] w 87 (fun r_ w2 => r_ = some (.int (nI (rt_cnt (gtW (rowW w) s cost) (s 1)))) ∧ w2 0 = oC 1 ∧ (∀ k, (0 < k ∧ k < 20) ∨ 43 < k → w2 k = w k) ∧ (∀ k, 20 ≤ k → k ≤ 43 → okR w2 k) ∧ ∃ (F : Nat → Nat) (fo : Nat) (S L B tf mv cn ro : Nat → Nat) (Pb P : Nat), CnP (fun x => rowW w 2 x = 0) (s 1) (gtW (rowW w) s cost) (plW (rowW w) s cost) F fo (s 5) S L B tf (dW (rowW w) s cost) ∧ CnS (gtW (rowW w) s cost) (plW (rowW w) s cost) F fo (s 5) S L B (pinW (rowW w) s cost) (ondF (rowW w)) (chF (rowW w) s) ∧
      FnD (s 1) (gtW (rowW w) s cost) (plW (rowW w) s cost) F S L (dW (rowW w) s cost) mv Pb P ∧ SM fo (s 5) (plW (rowW w) s cost) F S L B (tblW (rowW w) s cost) tf mv cn ro ∧ MapC w2 (s 1) (gtW (rowW w) s cost) (plW (rowW w) s cost) F fo (s 5) S (tblW (rowW w) s cost) mv cn ro ro (celW (rowW w) s cost) Pb P) := by
  obtain ⟨o0, o1, o6, o13, o20, o30, o36, o40, o45⟩ := hO
  obtain ⟨n1, n2, n3, n4, n5, n6, n7, n8, n9⟩ := hB.1
  have hG := Inv_G hS o1
  have hC := Inv_C hS o6
  have hL := Inv_L hS o13
  obtain ⟨d1, d2, d3, d4, d5⟩ := hB.drv hu
  obtain ⟨q1, q2, q3⟩ := hB.outs
  obtain ⟨hK, _⟩ := hB.gk
  obtain ⟨hCe, _, hCe3⟩ := hB.cells
  obtain ⟨hch, _, _⟩ := hB.chain hu hr
  obtain ⟨g1, g2⟩ := hB.gates hv
  have h64 : 2 ^ s 4 ≤ 2 ^ 6 := Nat.pow_le_pow_right (by decide) n4
  refine cx_met 60 mC_map_ok rfl ?_
  show cx_vc 60 none mC_map 12 0 0 _ _ 0 [some (.ref 0)] [] w (87, 0, 0)
  simp (decide := true) only [BmC_map, o0, o6, EV, EW, CT, ev_o, ev_is, ev_gd, List.length_cons, List.length_nil, Nat.reduceLT, Nat.reduceAdd, Nat.reduceEqDiff, Nat.reduceLeDiff, Int32.reduceLT, Int32.reduceLE, reduceIte, true_and, and_true, true_or, or_true, not_true_eq_false, not_false_eq_true, false_imp_iff, true_imp_iff, implies_true]
  refine cx_cs1 11 0 0 (by decide) (c_Ci_undriven (dd := 11) (b := false) hC n4 ⟨fun z => (by cases z), fun z => absurd z hu⟩) fun r wa h => ?_
  obtain ⟨rfl, rfl⟩ := h
  simp (decide := true) only [BmC_map, o0, o6, EV, EW, CT, ev_o, ev_is, ev_gd, List.length_cons, List.length_nil, Nat.reduceLT, Nat.reduceAdd, Nat.reduceEqDiff, Nat.reduceLeDiff, Int32.reduceLT, Int32.reduceLE, reduceIte, true_and, and_true, true_or, or_true, not_true_eq_false, not_false_eq_true, false_imp_iff, true_imp_iff, implies_true]
  refine cx_cs1 11 0 0 (by decide) (c_Ci_ring (dd := 10) (b := false) hG n1 (hS.i 5 rfl (by decide)) hC n4 d1 ⟨fun _ => hr, fun _ => rfl⟩) fun r wb h => ?_
  obtain ⟨rfl, rfl⟩ := h
  simp (decide := true) only [BmC_map, o0, o13, EV, EW, CT, ev_o, ev_is, ev_gd, List.length_cons, List.length_nil, Nat.reduceLT, Nat.reduceAdd, Nat.reduceEqDiff, Nat.reduceLeDiff, Int32.reduceLT, Int32.reduceLE, reduceIte, true_and, and_true, true_or, or_true, not_true_eq_false, not_false_eq_true, false_imp_iff, true_imp_iff, implies_true]
  refine cx_cs1 11 0 0 (by decide) (c_Li_covers (b := true) hL n6 ⟨fun _ => ⟨h6, h23⟩, fun _ => rfl⟩) fun r wc h => ?_
  obtain ⟨rfl, rfl⟩ := h
  simp (decide := true) only [BmC_map, o0, o20, EV, EW, CT, ev_o, ev_is, ev_gd, List.length_cons, List.length_nil, Nat.reduceLT, Nat.reduceAdd, Nat.reduceEqDiff, Nat.reduceLeDiff, Int32.reduceLT, Int32.reduceLE, reduceIte, true_and, and_true, true_or, or_true, not_true_eq_false, not_false_eq_true, false_imp_iff, true_imp_iff, implies_true]
  refine cx_cs1 11 0 0 (by decide) (c_Co_choose (need := needF (rowW wc) s) (cost := cost) hG n1 hK hC n4 n5 d1 q1 hL n6 o20 (hS.z 21 rfl (by decide)) (hS.i 22 rfl (by decide)) (hS.i 23 rfl (by decide)) (hS.i 24 rfl (by decide)) (hS.i 25 rfl (by decide)) (hS.i 26 rfl (by decide)) (hS.i 27 rfl (by decide)) (hS.z 28 rfl (by decide)) (hS.i 29 rfl (by decide)) (fun j _ => needF_iff) hCe hv) fun r w1 h => ?_
  obtain ⟨rfl, ⟨fn, gu, a21, a22⟩, ⟨a20, cs, ch, cp, lp, op, gm, gs, a23, a24, a25, a26, a27, a28, a29, hA, hgm, hgs⟩, ak⟩ := h
  have hgd := gd_all n6 hCe hv hA
  have con1 : ConC w1 (grG (rowW wc) s) (s 2) (s 3) (s 4) (s 5) (s 7) (nI (s 8)) (rowW wc 7) (rowW wc 8) (rowW wc 9) (rowW wc 10) (rowW wc 5) (drvF (rowW wc)) (olF (rowW wc)) (ondF (rowW wc)) :=
    ConC.of (w := wc) ⟨hG, n1, hS.i 5 rfl (by decide), hC, n4, n5, by omega, d1, q1⟩ fun k hk => ak k (by omega)
  have a0 := (ak 0 (by omega)).trans o0
  have a30 := (ak 30 (by omega)).trans o30
  simp (decide := true) only [BmC_map, a0, a30, EV, EW, CT, ev_o, ev_is, ev_gd, List.length_cons, List.length_nil, Nat.reduceLT, Nat.reduceAdd, Nat.reduceEqDiff, Nat.reduceLeDiff, Int32.reduceLT, Int32.reduceLE, reduceIte, true_and, and_true, true_or, or_true, not_true_eq_false, not_false_eq_true, false_imp_iff, true_imp_iff, implies_true]
  refine cx_cs1 10 0 0 (by decide) (c_Cn_connect (gt := gtW (rowW wc) s cost) (pins := pinW (rowW wc) s cost) con1 a20 ⟨_, (ak 13 (by omega)).trans o13⟩ ((ak 17 (by omega)).trans (hS.i 17 rfl (by decide))) a24 a25 a29 hgs (fun g hg => by obtain ⟨y1, _, y3⟩ := hgd _ g hg; exact ⟨y1, y3⟩) a30 ((ak 31 (by omega)).trans (hS.i 31 rfl (by decide))) ((ak 32 (by omega)).trans (hS.i 32 rfl (by decide))) ((ak 33 (by omega)).trans (hS.i 33 rfl (by decide))) ((ak 34 (by omega)).trans (hS.l 34 rfl (by decide))) ((ak 35 (by omega)).trans (hS.i 35 rfl (by decide)))) fun r w2 h => ?_
  obtain ⟨rfl, ⟨F, fo, hCn⟩, bk⟩ := h
  have b30 := hCn.1
  obtain ⟨sr, tg, ct, fg, rw, S, L, B, tf, b31, b32, b33, b34, b35, hP, hCs, hrow, htg, hfg, hto⟩ := cn_plan hB hv hch hCn
  have hH := hP.H
  have cell : ∀ g, gtW (rowW wc) s cost g → celW (rowW wc) s cost g < 8 ∧ ch g = nI (celW (rowW wc) s cost g) := fun g hg => by
    obtain ⟨y1, y2, y3, y4, y5, y6, y7, y8, y9, y10, y11⟩ := g1 g hg
    exact ⟨by omega, ((hA g y1 y2 y3).2.2 _ _ _ y10).1⟩
  have hRt : RtW w2 (s 1) (gtW (rowW wc) s cost) (plW (rowW wc) s cost) (fun g p => S (F g + p)) (fun g p => L (F g + p)) F fo (s 5) (dW (rowW wc) s cost) gs ch (rowW wc 16) gm sr tg ct := by
    refine ⟨⟨(bk 1 (by omega)).trans ((ak 1 (by omega)).trans o1), n1, ⟨_, (bk 13 (by omega)).trans ((ak 13 (by omega)).trans o13)⟩, (bk 16 (by omega)).trans ((ak 16 (by omega)).trans (hS.i 16 rfl (by decide))), (bk 20 (by omega)).trans a20, (bk 24 (by omega)).trans a24, (bk 28 (by omega)).trans a28, (bk 29 (by omega)).trans a29, b30, b31, b32, b33⟩, hgm, hgs, hP.1.2.1, fun g hg => ?_, dW_le _ _ _, fun e he => ?_, fun g p hg hp => ?_, fun o ho => ?_⟩
    · obtain ⟨y1, y2, y3, y4, y5, y6, y7, y8, y9, y10, y11⟩ := g1 g hg
      obtain ⟨z1, z2⟩ := cell g hg
      exact ⟨y1, _, z1, z2, by rw [(hCe3 _ y4).1, y8]⟩
    · obtain ⟨g, p, hg, hp, e1, _⟩ := hP.2.2.1 e he
      exact ⟨g, p, hg, hp, e1⟩
    · have hl := hP.lt hg hp
      obtain ⟨y1, y2, y3⟩ := hrow (F g + p) (by omega)
      obtain ⟨z1, z2, z3, z4⟩ := hP.2.2.2.2.1 (F g + p) (by omega)
      exact ⟨hl, y1, htg g p hg hp, y2, by show S (F g + p) < 48; omega, z2⟩
    · obtain ⟨y1, y2, y3⟩ := hrow (fo + o) (by omega)
      obtain ⟨z1, z2, z3, z4⟩ := hP.2.2.2.2.1 (fo + o) (by omega)
      exact ⟨hto o ho, _, _, y1, by omega, y2, z2⟩
  have hMv : ∀ wx : cx_W, (∀ k, k < 33 ∨ k = 35 → wx k = w2 k) → MvW wx (s 1) (gtW (rowW wc) s cost) (plW (rowW wc) s cost) F fo (s 5) S (tblW (rowW wc) s cost) gs ch (rowW wc 17) (rowW wc 19) sr fg := fun wx hx => by
    refine ⟨⟨n1, ⟨_, (hx 13 (by omega)).trans ((bk 13 (by omega)).trans ((ak 13 (by omega)).trans o13))⟩, (hx 17 (by omega)).trans ((bk 17 (by omega)).trans ((ak 17 (by omega)).trans (hS.i 17 rfl (by decide)))), (hx 19 (by omega)).trans ((bk 19 (by omega)).trans ((ak 19 (by omega)).trans (hS.i 19 rfl (by decide)))), (hx 20 (by omega)).trans ((bk 20 (by omega)).trans a20), (hx 24 (by omega)).trans ((bk 24 (by omega)).trans a24), (hx 29 (by omega)).trans ((bk 29 (by omega)).trans a29), (hx 30 (by omega)).trans b30, (hx 31 (by omega)).trans b31, (hx 35 (by omega)).trans b35⟩, hgs, hP.1.2.1, fun g hg => ?_, hP.2.2.2.1, fun e he => ?_⟩
    · obtain ⟨y1, y2, y3, y4, y5, y6, y7, y8, y9, y10, y11⟩ := g1 g hg
      obtain ⟨z1, z2⟩ := cell g hg
      refine ⟨y1, hfg g hg, (hP.2.1 g hg).2.2.1, _, z1, z2, ?_, y7, (hCe3 _ y4).2.2.2, ?_⟩
      · rw [(hCe _ y4).2.2.2.2.1, y6]; rfl
      · unfold tblW
        have := tabP_lt (qW (rowW wc) s cost g) (2 ^ pinsP (qW (rowW wc) s cost g))
        have h4 := (pat_num y5).2.1
        have h16 : 2 ^ pinsP (qW (rowW wc) s cost g) ≤ 2 ^ 4 := Nat.pow_le_pow_right (by decide) h4
        have h17 : 2 ^ (2 ^ pinsP (qW (rowW wc) s cost g)) ≤ 2 ^ (2 ^ 4) := Nat.pow_le_pow_right (by decide) h16
        omega
    · obtain ⟨y1, y2, y3⟩ := hrow e he
      exact ⟨y1, by have := (hP.2.2.2.2.1 e he).1; omega⟩
  obtain ⟨T, hT⟩ := rt_T_ex (r := fun _ => 0) (B := 0) hH (fun u _ => ⟨Int.le_refl _, Int.le_refl _⟩)
  have c0 := (bk 0 (by omega)).trans a0
  have c36 := (bk 36 (by omega)).trans ((ak 36 (by omega)).trans o36)
  simp (decide := true) only [BmC_map, c0, c36, EV, EW, CT, ev_o, ev_is, ev_gd, List.length_cons, List.length_nil, Nat.reduceLT, Nat.reduceAdd, Nat.reduceEqDiff, Nat.reduceLeDiff, Int32.reduceLT, Int32.reduceLE, reduceIte, true_and, and_true, true_or, or_true, not_true_eq_false, not_false_eq_true, false_imp_iff, true_imp_iff, implies_true]
  refine cx_cs1 10 0 0 (by decide) (c_Re_shorten (R := fun Pb P mv w3 => MvS w2 w3 (s 1) (gtW (rowW wc) s cost) (plW (rowW wc) s cost) F fo (s 5) S L B (tblW (rowW wc) s cost) tf (dW (rowW wc) s cost) Pb P mv) hRt hH c36 ((bk 37 (by omega)).trans ((ak 37 (by omega)).trans (hS.i 37 rfl (by decide)))) ((bk 38 (by omega)).trans ((ak 38 (by omega)).trans (hS.i 38 rfl (by decide)))) ((bk 39 (by omega)).trans ((ak 39 (by omega)).trans (hS.i 39 rfl (by decide)))) hT ?_) fun r w3 h => ?_
  · intro wx mr tr tl r_ mv t Pb P hx hb m0 m47 t1 t2 t3
    obtain ⟨x36, x37, x38, x39, x1, x2, xk⟩ := hx
    refine cx_cs1 9 0 0 (by decide) (c_Re_makeMoves (mv := mv) (hMv wx fun k z => xk k (by omega)) (hP.mvh hb m0 m47) x36 x37 (fun j hj => (x1 j hj).1) x38 ((xk 33 (by omega)).trans b33) ((xk 34 (by omega)).trans b34) (fun e he => ⟨(hrow e he).2.1, (hrow e he).2.2⟩)) fun r w4 h => ?_
    obtain ⟨rfl, ⟨tr4, ct4, rw4, cn4, ro4, e38, e33, e34, hsm, hcr⟩, ek⟩ := h
    exact ⟨rfl, mr, tr4, tl, ct4, rw4, cn4, ro4, (ek 36 (by omega)).trans x36, (ek 37 (by omega)).trans x37, fun j hj => (x1 j hj).1, e38, (ek 39 (by omega)).trans x39, e33, e34, hsm, hcr, ⟨hb, m0, m47, T, hT, t1, t2, t3⟩, fun k z => (ek k (by omega)).trans (xk k (by omega))⟩
  obtain ⟨rfl, Pb, P, mv, mr, tr, tl, ct3, rw3, cn, ro, f36, f37, hmr, f38, f39, f33, f34, hsm, hcr, hFn, fk⟩ := h
  obtain ⟨hb, m0, m47, hT3⟩ := id hFn
  have bd := sm_bd hsm (fun u => Nat.le_refl _) m47 (fun e he => (hP.2.2.2.2.1 e he).2.1)
  have hAr : ∀ wx : cx_W, (∀ k, (k < 33 ∨ k = 35) ∨ 43 < k → wx k = w3 k) → wx 33 = ai 196 ct3 → wx 40 = oMa → ArW wx (s 1) (gtW (rowW wc) s cost) (plW (rowW wc) s cost) F fo (s 5) S (tblW (rowW wc) s cost) cn gs ch (rowW wc 17) (rowW wc 19) sr fg gm ct3 := fun wx hx h33 h40 =>
    ⟨hMv wx fun k z => (hx k (by omega)).trans (fk k (by omega)), (hx 1 (by omega)).trans ((fk 1 (by omega)).trans ((bk 1 (by omega)).trans ((ak 1 (by omega)).trans o1))), (hx 28 (by omega)).trans ((fk 28 (by omega)).trans ((bk 28 (by omega)).trans a28)), hgm, h33, fun e he => ⟨(hcr e he).1, by have := (bd e he).1; omega⟩, h40⟩
  have f0 := (fk 0 (by omega)).trans c0
  have f40 := (fk 40 (by omega)).trans ((bk 40 (by omega)).trans ((ak 40 (by omega)).trans o40))
  simp (decide := true) only [BmC_map, f0, f40, EV, EW, CT, ev_o, ev_is, ev_gd, List.length_cons, List.length_nil, Nat.reduceLT, Nat.reduceAdd, Nat.reduceEqDiff, Nat.reduceLeDiff, Int32.reduceLT, Int32.reduceLE, reduceIte, true_and, and_true, true_or, or_true, not_true_eq_false, not_false_eq_true, false_imp_iff, true_imp_iff, implies_true]
  refine cx_cs1 10 0 0 (by decide) (c_Ma_arrange (key := fun g => 48 * mv g + g) (hAr w3 (fun _ _ => rfl) f33 f40) (hP.key hsm).2 ((fk 42 (by omega)).trans ((bk 42 (by omega)).trans ((ak 42 (by omega)).trans (hS.i 42 rfl (by decide))))) ((fk 43 (by omega)).trans ((bk 43 (by omega)).trans ((ak 43 (by omega)).trans (hS.z 43 rfl (by decide)))))) fun r w4 h => ?_
  obtain ⟨rfl, ⟨pr, or_, od, g43, g42, hor⟩, gk⟩ := h
  have g0 := (gk 0 (by omega)).trans f0
  have g40 := (gk 40 (by omega)).trans f40
  simp (decide := true) only [BmC_map, g0, g40, EV, EW, CT, ev_o, ev_is, ev_gd, List.length_cons, List.length_nil, Nat.reduceLT, Nat.reduceAdd, Nat.reduceEqDiff, Nat.reduceLeDiff, Int32.reduceLT, Int32.reduceLE, reduceIte, true_and, and_true, true_or, or_true, not_true_eq_false, not_false_eq_true, false_imp_iff, true_imp_iff, implies_true]
  refine cx_cs1 11 0 0 (by decide) (c_Ma_restart (dd := 9) (hAr w4 (fun k z => gk k (by omega)) ((gk 33 (by omega)).trans f33) g40) ((gk 34 (by omega)).trans f34) ((gk 41 (by omega)).trans ((fk 41 (by omega)).trans ((bk 41 (by omega)).trans ((ak 41 (by omega)).trans (hS.l 41 rfl (by decide))))))) fun r w5 h => ?_
  obtain ⟨rfl, ⟨pw, i41, hpw⟩, ik⟩ := h
  have i0 := (ik 0 (by omega)).trans g0
  have i20 := (ik 20 (by omega)).trans ((gk 20 (by omega)).trans ((fk 20 (by omega)).trans ((bk 20 (by omega)).trans a20)))
  simp (decide := true) only [BmC_map, BSC, i0, i20, EV, EW, CT, ev_o, ev_is, ev_gd, List.length_cons, List.length_nil, Nat.reduceLT, Nat.reduceAdd, Nat.reduceEqDiff, Nat.reduceLeDiff, Int32.reduceLT, Int32.reduceLE, reduceIte, true_and, and_true, true_or, or_true, not_true_eq_false, not_false_eq_true, false_imp_iff, true_imp_iff, implies_true]
  have J : ∀ k, ¬ k = 0 → cx_up w5 0 (oC 1) k = w5 k := fun k hk => if_neg hk
  have JJ : ∀ k, (k < 33 ∨ k = 35) ∨ 43 < k → ¬ k = 0 → cx_up w5 0 (oC 1) k = w3 k := fun k hk h0 => (J k h0).trans ((ik k (by omega)).trans (gk k (by omega)))
  refine ⟨rfl, fun k hk => ?_, fun k h1 h2 => ?_, F, fo, S, L, B, tf, mv, cn, ro, Pb, P, hP, hCs, hFn, hsm, ?_⟩
  · refine (if_neg (show ¬ k = 0 by omega)).trans ?_
    rw [ik k (by omega), gk k (by omega), fk k (by omega), bk k (by omega), ak k (by omega)]
  · have t20 : ∀ k, k < 30 → ¬ k = 0 → ∀ {e : cx_E}, w1 k = e → cx_up w5 0 (oC 1) k = e := fun k hk h0 e y => (JJ k (by omega) h0).trans ((fk k (by omega)).trans ((bk k (by omega)).trans y))
    rcases (show k = 20 ∨ k = 21 ∨ k = 22 ∨ k = 23 ∨ k = 24 ∨ k = 25 ∨ k = 26 ∨ k = 27 ∨ k = 28 ∨ k = 29 ∨ k = 30 ∨ k = 31 ∨ k = 32 ∨ k = 33 ∨ k = 34 ∨ k = 35 ∨ k = 36 ∨ k = 37 ∨ k = 38 ∨ k = 39 ∨ k = 40 ∨ k = 41 ∨ k = 42 ∨ k = 43 by omega) with rfl | rfl | rfl | rfl | rfl | rfl | rfl | rfl | rfl | rfl | rfl | rfl | rfl | rfl | rfl | rfl | rfl | rfl | rfl | rfl | rfl | rfl | rfl | rfl
    · exact okR_o rfl rfl rfl
    · exact okR_z (t20 21 (by omega) (by omega) a21) rfl rfl rfl
    · exact okR_i (t20 22 (by omega) (by omega) a22) rfl rfl rfl
    · exact okR_i (t20 23 (by omega) (by omega) a23) rfl rfl rfl
    · exact okR_i (t20 24 (by omega) (by omega) a24) rfl rfl rfl
    · exact okR_i (t20 25 (by omega) (by omega) a25) rfl rfl rfl
    · exact okR_i (t20 26 (by omega) (by omega) a26) rfl rfl rfl
    · exact okR_i (t20 27 (by omega) (by omega) a27) rfl rfl rfl
    · exact okR_z (t20 28 (by omega) (by omega) a28) rfl rfl rfl
    · exact okR_i (t20 29 (by omega) (by omega) a29) rfl rfl rfl
    · exact okR_o rfl rfl rfl
    · exact okR_i ((JJ 31 (by omega) (by omega)).trans ((fk 31 (by omega)).trans b31)) rfl rfl rfl
    · exact okR_i ((JJ 32 (by omega) (by omega)).trans ((fk 32 (by omega)).trans b32)) rfl rfl rfl
    · exact okR_i ((J 33 (by omega)).trans ((ik 33 (by omega)).trans ((gk 33 (by omega)).trans f33))) rfl rfl rfl
    · exact okR_l ((J 34 (by omega)).trans ((ik 34 (by omega)).trans ((gk 34 (by omega)).trans f34))) rfl rfl rfl
    · exact okR_i ((JJ 35 (by omega) (by omega)).trans ((fk 35 (by omega)).trans b35)) rfl rfl rfl
    · exact okR_o rfl rfl rfl
    · exact okR_i ((J 37 (by omega)).trans ((ik 37 (by omega)).trans ((gk 37 (by omega)).trans f37))) rfl rfl rfl
    · exact okR_i ((J 38 (by omega)).trans ((ik 38 (by omega)).trans ((gk 38 (by omega)).trans f38))) rfl rfl rfl
    · exact okR_i ((J 39 (by omega)).trans ((ik 39 (by omega)).trans ((gk 39 (by omega)).trans f39))) rfl rfl rfl
    · exact okR_o rfl rfl rfl
    · exact okR_l ((J 41 (by omega)).trans i41) rfl rfl rfl
    · exact okR_i ((J 42 (by omega)).trans ((ik 42 (by omega)).trans g42)) rfl rfl rfl
    · exact okR_z ((J 43 (by omega)).trans ((ik 43 (by omega)).trans g43)) rfl rfl rfl
  · refine ⟨gs, ch, rowW wc 17, rowW wc 19, sr, fg, gm, ct3, mr, or_, rw3, pw, od, ?_, (J 36 (by omega)).trans ((ik 36 (by omega)).trans ((gk 36 (by omega)).trans f36)), (J 37 (by omega)).trans ((ik 37 (by omega)).trans ((gk 37 (by omega)).trans f37)), hmr, (J 34 (by omega)).trans ((ik 34 (by omega)).trans ((gk 34 (by omega)).trans f34)), fun e he => ⟨(hcr e he).2, (bd e he).2, (bd e he).1⟩, (J 41 (by omega)).trans i41, fun e he => ⟨(hpw e he).trans (hcr e he).2, (bd e he).2⟩, (J 42 (by omega)).trans ((ik 42 (by omega)).trans g42), hor, fun g hg => ⟨(cell g hg).2, (cell g hg).1⟩⟩
    have A4 := hAr w4 (fun k z => gk k (by omega)) ((gk 33 (by omega)).trans f33) g40
    obtain ⟨⟨⟨y1, ⟨y2x, y2⟩, y3, y4, y5, y6, y7, y8, y9, y10⟩, yr⟩, z1, z2, z3, z4, z5, z6⟩ := A4
    have JI : ∀ k, ¬ k = 0 → ¬ k = 41 → ∀ {e : cx_E}, w4 k = e → cx_up w5 0 (oC 1) k = e := fun k h0 h41 e y => (J k h0).trans ((ik k h41).trans y)
    exact ⟨⟨⟨y1, ⟨y2x, JI 13 (by omega) (by omega) y2⟩, JI 17 (by omega) (by omega) y3, JI 19 (by omega) (by omega) y4, JI 20 (by omega) (by omega) y5, JI 24 (by omega) (by omega) y6, JI 29 (by omega) (by omega) y7, JI 30 (by omega) (by omega) y8, JI 31 (by omega) (by omega) y9, JI 35 (by omega) (by omega) y10⟩, yr⟩, JI 1 (by omega) (by omega) z1, JI 28 (by omega) (by omega) z2, z3, JI 33 (by omega) (by omega) z4, z5, JI 40 (by omega) (by omega) z6⟩
