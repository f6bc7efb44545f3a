/-! The cover's own method: the given side. Printed by gen_18i.py. -/
theorem cx_OK_mono {X : cx_X} {M : cx_M} {d mc ms : Nat} {Q Q2 : cx_Q} {pc : Nat} {L : cx_L} {st : List Value} {w : cx_W} {u : cx_U} (h : ∀ r w u, Q r w u → Q2 r w u) (hok : cx_OK X M d mc ms Q pc L st w u) : cx_OK X M d mc ms Q2 pc L st w u :=
  fun p l e R s m args below meth c F g D cA H locs ls hC => hok p l e R s m args below meth c F g D cA H locs ls ⟨hC.1, hC.2.1, fun r w u H locs pc ls hq => hC.2.2 r w u H locs pc ls (h r w u hq)⟩
/-- the gates -/
def gtF (n : Nat) (kd px py : Nat → Nat) (need : Nat → Bool) (p A : Nat → Nat) (cc : Nat) (cost : Nat → Nat) (m : Nat) : Prop := gF n kd (rtF n kd px py need) (fun g => (chosen kd px py (rtF n kd px py need) p A cc cost g).2.2) n m
/-- what the cover leaves in the rows -/
def CovW (w : cx_W) (G : Gr) (kd px py : Nat → Nat) (need : Nat → Bool) (p A : Nat → Nat) (cc : Nat) (cost : Nat → Nat) : Prop :=
  w 20 = oCo (nI (rt_cnt (gtF G.1 kd px py need p A cc cost) G.1)) ∧ ∃ cs ch cp lp op gm gs, w 23 = ai 48 cs ∧ w 24 = ai 48 ch ∧ w 25 = ai 192 cp ∧ w 26 = ai 4 lp ∧ w 27 = ai 8 op ∧ w 28 = az 48 gm ∧ w 29 = ai 48 gs ∧ ChA G kd px py need p A cc cost cs ch cp G.1 ∧ BR 48 gm (gtF G.1 kd px py need p A cc cost) ∧ GtR gs (gtF G.1 kd px py need p A cc cost) G.1
set_option maxHeartbeats 16000000 in
theorem co_loop {w : cx_W} {G : Gr} {kd px py : Nat → Nat} {need : Nat → Bool} {cost p A : Nat → Nat} {fn gu pa ndc ar pn gm0 gs0 : Nat → Int32} {cc : Nat} (hW : CoW w G kd px py need (usF G.1 kd px py need G.1) fn gu pa ndc) (h13 : w 13 = oLi (nI cc)) (h15 : w 15 = ai 8 ar) (h17 : w 17 = ai 8 pn) (h28 : w 28 = az 48 gm0) (h29 : w 29 = ai 48 gs0) (hcc : cc ≤ 8) (hC : CellsC cc pa ar pn ndc p A) (hv : CovA G kd px py need p A cc cost) :
    ∀ (m i : Nat) (w1 : cx_W) (cs ch cp lp op : Nat → Int32), i + m = G.1 → w1 23 = ai 48 cs → w1 24 = ai 48 ch → w1 25 = ai 192 cp → w1 26 = ai 4 lp → w1 27 = ai 8 op → (∀ k, k < 23 ∨ 27 < k → w1 k = w k) → ChA G kd px py need p A cc cost cs ch cp i →
    cx_OK none mCo_choose 11 0 0 (fun r w2 _ => r = none ∧ CovW w2 G kd px py need p A cc cost ∧ ∀ k, (k < 20 ∨ k = 21 ∨ k = 22) ∨ 29 < k → w2 k = w k) 10 [some (.ref 20), some (.int (nI i))] [] w1 (87, 0, 0) := by
  have hW' := hW
  obtain ⟨⟨g1, g2, g3, g4⟩, hn48, hK, ⟨x20, h20⟩, _, h14, h18, h21, hfn, h22, hgu, hus⟩ := hW
  intro m
  induction m with
  | zero =>
    intro i w1 cs ch cp lp op hi h23 h24 h25 h26 h27 hk hA
    have e : i = G.1 := by omega
    subst e
    have E := leT (a := G.1) (b := G.1) (by omega) (by omega)
    have k20 := (hk 20 (by decide)).trans h20
    have k1 := (hk 1 (by decide)).trans g1
    have hW1 := hW'.of (w1 := w1) fun k q => hk k (.inl q)
    refine cx_run 60 mCo_choose_mo ?_
    simp (decide := true) only [BmCo_choose, BSC, k20, k1, E, EV, EW, CT, ev_o, ev_is, ev_gd, List.length_cons, List.length_nil, Nat.reduceLT, Nat.reduceAdd, Nat.reduceEqDiff, Nat.reduceLeDiff, Int32.reduceLT, Int32.reduceLE, reduceIte, true_and, and_true, true_or, or_true, not_true_eq_false, not_false_eq_true, false_imp_iff, true_imp_iff, implies_true]
    refine cx_cs1 10 0 0 (by decide) (c_Co_markGates (pins := fun g => (chosen kd px py (rtF G.1 kd px py need) p A cc cost g).2.2) hW1 ((hk 17 (by decide)).trans h17) h24 h25 ((hk 28 (by decide)).trans h28) (fun k m h => ⟨(gd_all hcc hC hv hA k m h).1, (gd_all hcc hC hv hA k m h).2.2⟩)) fun r w2 h2 => ?_
    obtain ⟨rfl, ⟨gm, a28, aB⟩, ak⟩ := h2
    have b20 := (ak 20 (by decide)).trans k20
    simp (decide := true) only [BmCo_choose, b20, EV, EW, CT, ev_o, ev_is, ev_gd, List.length_cons, List.length_nil, Nat.reduceLT, Nat.reduceAdd, Nat.reduceEqDiff, Nat.reduceLeDiff, Int32.reduceLT, Int32.reduceLE, reduceIte, true_and, and_true, true_or, or_true, not_true_eq_false, not_false_eq_true, false_imp_iff, true_imp_iff, implies_true]
    refine cx_cs1 10 0 0 (by decide) (c_Co_listGates (dd := 9) (gt := gtF G.1 kd px py need p A cc cost) ⟨(ak 1 (by decide)).trans k1, (ak 2 (by decide)).trans ((hk 2 (by decide)).trans g2), (ak 3 (by decide)).trans ((hk 3 (by decide)).trans g3), (ak 4 (by decide)).trans ((hk 4 (by decide)).trans g4)⟩ hn48 b20 a28 aB ((ak 29 (by decide)).trans ((hk 29 (by decide)).trans h29))) fun r w3 h3 => ?_
    obtain ⟨rfl, c20, ⟨gs, c29, cR⟩, ck⟩ := h3
    simp (decide := true) only [BmCo_choose, EV, EW, CT, ev_o, ev_is, ev_gd, List.length_cons, List.length_nil, Nat.reduceLT, Nat.reduceAdd, Nat.reduceEqDiff, Nat.reduceLeDiff, Int32.reduceLT, Int32.reduceLE, reduceIte, true_and, and_true, true_or, or_true, not_true_eq_false, not_false_eq_true, false_imp_iff, true_imp_iff, implies_true]
    refine ⟨⟨c20, cs, ch, cp, lp, op, gm, gs, ?_, ?_, ?_, ?_, ?_, ?_, c29, hA, aB, cR⟩, fun k q => ?_⟩
    · exact (ck 23 (by decide)).trans ((ak 23 (by decide)).trans h23)
    · exact (ck 24 (by decide)).trans ((ak 24 (by decide)).trans h24)
    · exact (ck 25 (by decide)).trans ((ak 25 (by decide)).trans h25)
    · exact (ck 26 (by decide)).trans ((ak 26 (by decide)).trans h26)
    · exact (ck 27 (by decide)).trans ((ak 27 (by decide)).trans h27)
    · exact (ck 28 (by decide)).trans a28
    · exact (ck k (by omega)).trans ((ak k (by omega)).trans (hk k (by omega)))
  | succ m ih =>
    intro i w1 cs ch cp lp op hi h23 h24 h25 h26 h27 hk hA
    have E := leF (a := G.1) (b := i) (by omega) (by omega)
    have k20 := (hk 20 (by decide)).trans h20
    have k1 := (hk 1 (by decide)).trans g1
    have k2 := (hk 2 (by decide)).trans g2
    have k21 := (hk 21 (by decide)).trans h21
    have k22 := (hk 22 (by decide)).trans h22
    have v1 : vp_in (nI i) 48 := nI_in (by omega) (by decide)
    have ⟨d1, d2, d3, d4⟩ := hK i (by omega)
    have fnn := hfn i (by omega)
    have gun := hgu i (by omega)
    have usn := hus i
    have hW1 := hW'.of (w1 := w1) fun k q => hk k (.inl q)
    have skip : ¬ (lvF G.1 kd px py need i = true ∧ (kd i = 2 ∨ kd i = 3)) → ChA G kd px py need p A cc cost cs ch cp (i + 1) := fun q m hm hl hg => by
      by_cases e : m = i
      · subst e; exact absurd ⟨hl, hg⟩ q
      · exact hA m (by omega) hl hg
    have fin : ∀ cs2 ch2 cp2, (∀ j, ¬ j = i → cs2 j = cs j ∧ ch2 j = ch j) → (∀ x, x < 4 * i ∨ 4 * i + 4 ≤ x → cp2 x = cp x) → ChR i cs2 ch2 cp2 (bestC kd px py (rtF G.1 kd px py need) p A cc cost 48001 i) → ChA G kd px py need p A cc cost cs2 ch2 cp2 (i + 1) := by
      intro cs2 ch2 cp2 aj ai_ aR m hm hlm hgm
      by_cases e : m = i
      · subst e; exact aR
      · refine (hA m (by omega) hlm hgm).keep e aj ai_ fun c sw pins hs => ?_
        have ⟨c', sw', pins', _, e2, _, e4, _, _, e7⟩ := chosen_eq (hv m (by omega) hlm hgm)
        rw [hs] at e2
        injection e2 with e2
        injection e2 with e5 e6
        injection e6 with e8 e9
        subst e9
        have := (pat_num (hC c' e4).1).2.1
        omega
    refine cx_run 60 mCo_choose_mo ?_
    cases nm : need i
    · have F1 : fn i = 0 := fnn.2 (fun (z : need i = true) => by rw [nm] at z; cases z)
      by_cases up : 0 < usF G.1 kd px py need G.1 i
      · have F2 : (nI (usF G.1 kd px py need G.1 i) ≤ 0) = False := eq_false (Int32.not_le.mpr (nI_lt (a := 0) up (by omega)))
        have lv : lvF G.1 kd px py need i = true := by unfold lvF; rw [Bool.or_eq_true]; exact .inr (decide_eq_true up)
        rcases (show kd i = 0 ∨ kd i = 1 ∨ kd i = 2 ∨ kd i = 3 by omega) with kk | kk | kk | kk
        · have KD : G.2.1 i = 0 := by rw [d1, kk]; rfl
          simp (decide := true) only [KD, F1, F2, gun, BmCo_choose, BSC, k20, k1, k2, k21, k22, E, v1, nI_clamp (n := i) (by omega), nI_1, EV, EW, CT, ev_o, ev_is, ev_gd, List.length_cons, List.length_nil, Nat.reduceLT, Nat.reduceAdd, Nat.reduceEqDiff, Nat.reduceLeDiff, Int32.reduceLT, Int32.reduceLE, reduceIte, true_and, and_true, true_or, or_true, not_true_eq_false, not_false_eq_true, false_imp_iff, true_imp_iff, implies_true]
          exact ih (i + 1) w1 cs ch cp lp op (by omega) h23 h24 h25 h26 h27 hk (skip fun q => by omega)
        · have KD : G.2.1 i = 1 := by rw [d1, kk]; rfl
          simp (decide := true) only [KD, F1, F2, gun, BmCo_choose, BSC, k20, k1, k2, k21, k22, E, v1, nI_clamp (n := i) (by omega), nI_1, EV, EW, CT, ev_o, ev_is, ev_gd, List.length_cons, List.length_nil, Nat.reduceLT, Nat.reduceAdd, Nat.reduceEqDiff, Nat.reduceLeDiff, Int32.reduceLT, Int32.reduceLE, reduceIte, true_and, and_true, true_or, or_true, not_true_eq_false, not_false_eq_true, false_imp_iff, true_imp_iff, implies_true]
          exact ih (i + 1) w1 cs ch cp lp op (by omega) h23 h24 h25 h26 h27 hk (skip fun q => by omega)
        · have KD : G.2.1 i = 2 := by rw [d1, kk]; rfl
          simp (decide := true) only [KD, F1, F2, gun, BmCo_choose, BSC, k20, k1, k2, k21, k22, E, v1, nI_clamp (n := i) (by omega), nI_1, EV, EW, CT, ev_o, ev_is, ev_gd, List.length_cons, List.length_nil, Nat.reduceLT, Nat.reduceAdd, Nat.reduceEqDiff, Nat.reduceLeDiff, Int32.reduceLT, Int32.reduceLE, reduceIte, true_and, and_true, true_or, or_true, not_true_eq_false, not_false_eq_true, false_imp_iff, true_imp_iff, implies_true]
          refine cx_cs1 10 0 0 (by decide) (c_Co_chooseAt (cost := cost) hW1 ((hk 13 (by decide)).trans h13) ((hk 15 (by decide)).trans h15) ((hk 17 (by decide)).trans h17) h23 h24 h25 h26 h27 hcc hC (show i < G.1 by omega) (pins_c hK hC hv hA (by omega) lv)) fun r w2 h2 => ?_
          obtain ⟨rfl, ⟨cs2, ch2, cp2, lp2, op2, a23, a24, a25, a26, a27, aj, ai_, aR⟩, ak⟩ := h2
          simp (decide := true) only [BmCo_choose, nI_1, EV, EW, CT, ev_o, ev_is, ev_gd, List.length_cons, List.length_nil, Nat.reduceLT, Nat.reduceAdd, Nat.reduceEqDiff, Nat.reduceLeDiff, Int32.reduceLT, Int32.reduceLE, reduceIte, true_and, and_true, true_or, or_true, not_true_eq_false, not_false_eq_true, false_imp_iff, true_imp_iff, implies_true]
          exact ih (i + 1) w2 cs2 ch2 cp2 lp2 op2 (by omega) a23 a24 a25 a26 a27 (fun k q => (ak k q).trans (hk k q)) (fin cs2 ch2 cp2 aj ai_ aR)
        · have KD : G.2.1 i = 3 := by rw [d1, kk]; rfl
          simp (decide := true) only [KD, F1, F2, gun, BmCo_choose, BSC, k20, k1, k2, k21, k22, E, v1, nI_clamp (n := i) (by omega), nI_1, EV, EW, CT, ev_o, ev_is, ev_gd, List.length_cons, List.length_nil, Nat.reduceLT, Nat.reduceAdd, Nat.reduceEqDiff, Nat.reduceLeDiff, Int32.reduceLT, Int32.reduceLE, reduceIte, true_and, and_true, true_or, or_true, not_true_eq_false, not_false_eq_true, false_imp_iff, true_imp_iff, implies_true]
          refine cx_cs1 10 0 0 (by decide) (c_Co_chooseAt (cost := cost) hW1 ((hk 13 (by decide)).trans h13) ((hk 15 (by decide)).trans h15) ((hk 17 (by decide)).trans h17) h23 h24 h25 h26 h27 hcc hC (show i < G.1 by omega) (pins_c hK hC hv hA (by omega) lv)) fun r w2 h2 => ?_
          obtain ⟨rfl, ⟨cs2, ch2, cp2, lp2, op2, a23, a24, a25, a26, a27, aj, ai_, aR⟩, ak⟩ := h2
          simp (decide := true) only [BmCo_choose, nI_1, EV, EW, CT, ev_o, ev_is, ev_gd, List.length_cons, List.length_nil, Nat.reduceLT, Nat.reduceAdd, Nat.reduceEqDiff, Nat.reduceLeDiff, Int32.reduceLT, Int32.reduceLE, reduceIte, true_and, and_true, true_or, or_true, not_true_eq_false, not_false_eq_true, false_imp_iff, true_imp_iff, implies_true]
          exact ih (i + 1) w2 cs2 ch2 cp2 lp2 op2 (by omega) a23 a24 a25 a26 a27 (fun k q => (ak k q).trans (hk k q)) (fin cs2 ch2 cp2 aj ai_ aR)
      · have F2 : (nI (usF G.1 kd px py need G.1 i) ≤ 0) = True := eq_true (nI_le (b := 0) (by omega) (by decide))
        simp (decide := true) only [F1, F2, gun, BmCo_choose, BSC, k20, k1, k2, k21, k22, E, v1, nI_clamp (n := i) (by omega), nI_1, EV, EW, CT, ev_o, ev_is, ev_gd, List.length_cons, List.length_nil, Nat.reduceLT, Nat.reduceAdd, Nat.reduceEqDiff, Nat.reduceLeDiff, Int32.reduceLT, Int32.reduceLE, reduceIte, true_and, and_true, true_or, or_true, not_true_eq_false, not_false_eq_true, false_imp_iff, true_imp_iff, implies_true]
        exact ih (i + 1) w1 cs ch cp lp op (by omega) h23 h24 h25 h26 h27 hk (skip fun q => by have := q.1; unfold lvF at this; rw [nm, Bool.false_or] at this; exact up (of_decide_eq_true this))
    · have F1 : fn i = 1 := fnn.1 nm
      have lv : lvF G.1 kd px py need i = true := by unfold lvF; rw [nm]; rfl
      rcases (show kd i = 0 ∨ kd i = 1 ∨ kd i = 2 ∨ kd i = 3 by omega) with kk | kk | kk | kk
      · have KD : G.2.1 i = 0 := by rw [d1, kk]; rfl
        simp (decide := true) only [KD, F1, BmCo_choose, BSC, k20, k1, k2, k21, k22, E, v1, nI_clamp (n := i) (by omega), nI_1, EV, EW, CT, ev_o, ev_is, ev_gd, List.length_cons, List.length_nil, Nat.reduceLT, Nat.reduceAdd, Nat.reduceEqDiff, Nat.reduceLeDiff, Int32.reduceLT, Int32.reduceLE, reduceIte, true_and, and_true, true_or, or_true, not_true_eq_false, not_false_eq_true, false_imp_iff, true_imp_iff, implies_true]
        exact ih (i + 1) w1 cs ch cp lp op (by omega) h23 h24 h25 h26 h27 hk (skip fun q => by omega)
      · have KD : G.2.1 i = 1 := by rw [d1, kk]; rfl
        simp (decide := true) only [KD, F1, BmCo_choose, BSC, k20, k1, k2, k21, k22, E, v1, nI_clamp (n := i) (by omega), nI_1, EV, EW, CT, ev_o, ev_is, ev_gd, List.length_cons, List.length_nil, Nat.reduceLT, Nat.reduceAdd, Nat.reduceEqDiff, Nat.reduceLeDiff, Int32.reduceLT, Int32.reduceLE, reduceIte, true_and, and_true, true_or, or_true, not_true_eq_false, not_false_eq_true, false_imp_iff, true_imp_iff, implies_true]
        exact ih (i + 1) w1 cs ch cp lp op (by omega) h23 h24 h25 h26 h27 hk (skip fun q => by omega)
      · have KD : G.2.1 i = 2 := by rw [d1, kk]; rfl
        simp (decide := true) only [KD, F1, BmCo_choose, BSC, k20, k1, k2, k21, k22, E, v1, nI_clamp (n := i) (by omega), nI_1, EV, EW, CT, ev_o, ev_is, ev_gd, List.length_cons, List.length_nil, Nat.reduceLT, Nat.reduceAdd, Nat.reduceEqDiff, Nat.reduceLeDiff, Int32.reduceLT, Int32.reduceLE, reduceIte, true_and, and_true, true_or, or_true, not_true_eq_false, not_false_eq_true, false_imp_iff, true_imp_iff, implies_true]
        refine cx_cs1 10 0 0 (by decide) (c_Co_chooseAt (cost := cost) hW1 ((hk 13 (by decide)).trans h13) ((hk 15 (by decide)).trans h15) ((hk 17 (by decide)).trans h17) h23 h24 h25 h26 h27 hcc hC (show i < G.1 by omega) (pins_c hK hC hv hA (by omega) lv)) fun r w2 h2 => ?_
        obtain ⟨rfl, ⟨cs2, ch2, cp2, lp2, op2, a23, a24, a25, a26, a27, aj, ai_, aR⟩, ak⟩ := h2
        simp (decide := true) only [BmCo_choose, nI_1, EV, EW, CT, ev_o, ev_is, ev_gd, List.length_cons, List.length_nil, Nat.reduceLT, Nat.reduceAdd, Nat.reduceEqDiff, Nat.reduceLeDiff, Int32.reduceLT, Int32.reduceLE, reduceIte, true_and, and_true, true_or, or_true, not_true_eq_false, not_false_eq_true, false_imp_iff, true_imp_iff, implies_true]
        exact ih (i + 1) w2 cs2 ch2 cp2 lp2 op2 (by omega) a23 a24 a25 a26 a27 (fun k q => (ak k q).trans (hk k q)) (fin cs2 ch2 cp2 aj ai_ aR)
      · have KD : G.2.1 i = 3 := by rw [d1, kk]; rfl
        simp (decide := true) only [KD, F1, BmCo_choose, BSC, k20, k1, k2, k21, k22, E, v1, nI_clamp (n := i) (by omega), nI_1, EV, EW, CT, ev_o, ev_is, ev_gd, List.length_cons, List.length_nil, Nat.reduceLT, Nat.reduceAdd, Nat.reduceEqDiff, Nat.reduceLeDiff, Int32.reduceLT, Int32.reduceLE, reduceIte, true_and, and_true, true_or, or_true, not_true_eq_false, not_false_eq_true, false_imp_iff, true_imp_iff, implies_true]
        refine cx_cs1 10 0 0 (by decide) (c_Co_chooseAt (cost := cost) hW1 ((hk 13 (by decide)).trans h13) ((hk 15 (by decide)).trans h15) ((hk 17 (by decide)).trans h17) h23 h24 h25 h26 h27 hcc hC (show i < G.1 by omega) (pins_c hK hC hv hA (by omega) lv)) fun r w2 h2 => ?_
        obtain ⟨rfl, ⟨cs2, ch2, cp2, lp2, op2, a23, a24, a25, a26, a27, aj, ai_, aR⟩, ak⟩ := h2
        simp (decide := true) only [BmCo_choose, nI_1, EV, EW, CT, ev_o, ev_is, ev_gd, List.length_cons, List.length_nil, Nat.reduceLT, Nat.reduceAdd, Nat.reduceEqDiff, Nat.reduceLeDiff, Int32.reduceLT, Int32.reduceLE, reduceIte, true_and, and_true, true_or, or_true, not_true_eq_false, not_false_eq_true, false_imp_iff, true_imp_iff, implies_true]
        exact ih (i + 1) w2 cs2 ch2 cp2 lp2 op2 (by omega) a23 a24 a25 a26 a27 (fun k q => (ak k q).trans (hk k q)) (fin cs2 ch2 cp2 aj ai_ aR)
set_option maxHeartbeats 8000000 in
theorem c_Co_choose {w : cx_W} {G : Gr} {kd px py : Nat → Nat} {need : Nat → Bool} {cost p A : Nat → Nat} {nc ic lc oc cc : Nat} {ib pb : Int32} {nn nl dv on od : Nat → Int32} {drv ol ond : Nat → Nat} {x : Int32} {pa ar dl pn ndc tb nd0 us0 cs0 ch0 cp0 lp0 op0 gm0 gs0 : Nat → Int32} (hG : GW w G) (hn : G.1 ≤ 48) (hK : GK G kd px py) (hCi : CW w nc ic lc oc ib pb nn nl dv on) (hlc : lc ≤ 6) (hoc : oc ≤ 4) (hD : DrvC G lc nn dv od drv ol) (hO : OutC G oc nn on ond) (hL : LW w cc pa ar dl pn ndc tb) (hcc : cc ≤ 8)
    (h20 : w 20 = oCo x) (h21 : w 21 = az 48 nd0) (h22 : w 22 = ai 48 us0) (h23 : w 23 = ai 48 cs0) (h24 : w 24 = ai 48 ch0) (h25 : w 25 = ai 192 cp0) (h26 : w 26 = ai 4 lp0) (h27 : w 27 = ai 8 op0) (h28 : w 28 = az 48 gm0) (h29 : w 29 = ai 48 gs0) (hneed : ∀ j, j < 48 → (need j = true ↔ NeedP oc lc ond drv j)) (hC : CellsC cc pa ar pn ndc p A) (hv : CovA G kd px py need p A cc cost) :
    cx_MC mCo_choose 11 0 0 [.ref 20] w 87 (fun r w2 => r = none ∧ (∃ fn gu, w2 21 = az 48 fn ∧ w2 22 = ai 48 gu) ∧ CovW w2 G kd px py need p A cc cost ∧ ∀ k, k < 20 ∨ 29 < k → w2 k = w k) := by
  have hG' := hG
  obtain ⟨g1, g2, g3, g4⟩ := hG
  obtain ⟨h13, h14, h15, h16, h17, h18, h19⟩ := hL
  refine cx_met 60 mCo_choose_ok rfl ?_
  show cx_vc 60 none mCo_choose 11 0 0 _ _ 0 [some (.ref 20), none] [] w (87, 0, 0)
  simp (decide := true) only [BmCo_choose, h20, EV, EW, CT, ev_o, ev_is, ev_gd, List.length_cons, List.length_nil, Nat.reduceLT, Nat.reduceAdd, Nat.reduceEqDiff, Nat.reduceLeDiff, Int32.reduceLT, Int32.reduceLE, reduceIte, true_and, and_true, true_or, or_true, not_true_eq_false, not_false_eq_true, false_imp_iff, true_imp_iff, implies_true]
  refine cx_cs1 10 0 0 (by decide) (c_Co_markNeeded (dd := 9) (ond := ond) hn ⟨x, h20⟩ h21 hCi hlc hoc hD hO) fun r w2 h2 => ?_
  obtain ⟨rfl, ⟨fn, a21, aB⟩, ak⟩ := h2
  have k20 := (ak 20 (by decide)).trans h20
  have hB : BR 48 fn (fun j => need j = true) := aB.congr fun j hj => (hneed j hj).symm
  have hG2 : GW w2 G := ⟨(ak 1 (by decide)).trans g1, (ak 2 (by decide)).trans g2, (ak 3 (by decide)).trans g3, (ak 4 (by decide)).trans g4⟩
  simp (decide := true) only [BmCo_choose, k20, EV, EW, CT, ev_o, ev_is, ev_gd, List.length_cons, List.length_nil, Nat.reduceLT, Nat.reduceAdd, Nat.reduceEqDiff, Nat.reduceLeDiff, Int32.reduceLT, Int32.reduceLE, reduceIte, true_and, and_true, true_or, or_true, not_true_eq_false, not_false_eq_true, false_imp_iff, true_imp_iff, implies_true]
  refine cx_cs1 10 0 0 (by decide) (c_Co_countLiveUsers (dd := 8) (need := need) hG2 hn hK ⟨x, k20⟩ a21 hB ((ak 22 (by decide)).trans h22)) fun r w3 h3 => ?_
  obtain ⟨rfl, ⟨gu, b22, bu⟩, bk⟩ := h3
  simp (decide := true) only [BmCo_choose, EV, EW, CT, ev_o, ev_is, ev_gd, List.length_cons, List.length_nil, Nat.reduceLT, Nat.reduceAdd, Nat.reduceEqDiff, Nat.reduceLeDiff, Int32.reduceLT, Int32.reduceLE, reduceIte, true_and, and_true, true_or, or_true, not_true_eq_false, not_false_eq_true, false_imp_iff, true_imp_iff, implies_true]
  have f : ∀ k, ¬ k = 21 ∧ ¬ k = 22 → w3 k = w k := fun k q => (bk k q.2).trans (ak k q.1)
  have hW : CoW w3 G kd px py need (usF G.1 kd px py need G.1) fn gu pa ndc := ⟨⟨(f 1 (by decide)).trans g1, (f 2 (by decide)).trans g2, (f 3 (by decide)).trans g3, (f 4 (by decide)).trans g4⟩, hn, hK, ⟨x, (f 20 (by decide)).trans h20⟩, ⟨_, (f 13 (by decide)).trans h13⟩, (f 14 (by decide)).trans h14, (f 18 (by decide)).trans h18, (bk 21 (by decide)).trans a21, hB, b22, bu, fun j => by have := usF_le G.1 kd px py need G.1 j; omega⟩
  have := co_loop (w := w3) hW ((f 13 (by decide)).trans h13) ((f 15 (by decide)).trans h15) ((f 17 (by decide)).trans h17) ((f 28 (by decide)).trans h28) ((f 29 (by decide)).trans h29) hcc hC hv G.1 0 w3 cs0 ch0 cp0 lp0 op0 (by omega) ((f 23 (by decide)).trans h23) ((f 24 (by decide)).trans h24) ((f 25 (by decide)).trans h25) ((f 26 (by decide)).trans h26) ((f 27 (by decide)).trans h27) (fun _ _ => rfl) (fun m h => by omega)
  exact cx_OK_mono (fun r w4 u q => ⟨q.1, ⟨fn, gu, (q.2.2 21 (by omega)).trans ((bk 21 (by decide)).trans a21), (q.2.2 22 (by omega)).trans b22⟩, q.2.1, fun k z => (q.2.2 k (by omega)).trans (f k (by omega))⟩) this
