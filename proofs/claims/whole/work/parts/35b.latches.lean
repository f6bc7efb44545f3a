/-! Area, latches, clocking and reset of a mapped circuit, both sides. Own work. -/
noncomputable def arI (gt : Nat → Prop) (f : Nat → Int32) : Nat → Int32
  | 0 => 0
  | n + 1 => @ite Int32 (gt n) (Classical.propDecidable (gt n)) (arI gt f n + f n) (arI gt f n)
theorem arI_t {gt : Nat → Prop} {f : Nat → Int32} {n : Nat} (h : gt n) : arI gt f (n + 1) = arI gt f n + f n := by rw [arI, if_pos h]
theorem arI_f {gt : Nat → Prop} {f : Nat → Int32} {n : Nat} (h : ¬ gt n) : arI gt f (n + 1) = arI gt f n := by rw [arI, if_neg h]
theorem rt_cnt_t {gt : Nat → Prop} {n : Nat} (h : gt n) : rt_cnt gt (n + 1) = rt_cnt gt n + 1 := by rw [rt_cnt, if_pos h]
theorem rt_cnt_f {gt : Nat → Prop} {n : Nat} (h : ¬ gt n) : rt_cnt gt (n + 1) = rt_cnt gt n := by rw [rt_cnt, if_neg h]; rfl
set_option maxHeartbeats 8000000 in
theorem c_M_area {w : cx_W} {n : Nat} {gt : Nat → Prop} {gr ch ar : Nat → Int32} {cel : Nat → Nat} {x0 x1 x2 x4 x5 x7 x8 x9 : Int32} (hn : n ≤ 48) (h45 : w 45 = oM x0 x1 x2 (nI n) x4 x5 1 x7 x8 x9) (h70 : w 70 = az 48 gr) (hB : BR 48 gr gt) (h62 : w 62 = ai 8 ar) (h68 : w 68 = ai 48 ch) (hc : ∀ g, gt g → ch g = nI (cel g) ∧ cel g < 8) :
    cx_MC mM_area 12 0 0 [.ref 45] w 87 (fun r w2 => r = some (.int (arI gt (fun g => ar (cel g)) n)) ∧ w2 = w) := by
  have lp : ∀ (k i : Nat), i + k = n → cx_OK none mM_area 12 0 0 (fun r_ w2 _ => r_ = some (.int (arI gt (fun g => ar (cel g)) n)) ∧ w2 = w) 14 [some (.ref 45), some (.int (arI gt (fun g => ar (cel g)) i)), some (.int (nI i))] [] w (87, 0, 0) := by
    intro k
    induction k with
    | zero =>
      intro i hi
      have e : i = n := by omega
      subst e
      have E := leT (a := i) (b := i) (by omega) (by omega)
      refine cx_run 60 mM_area_mo ?_
      simp (decide := true) only [BmM_area, h45, E, EV, EW, CT, ev_o, ev_is, ev_gd, List.length_cons, List.length_nil, Nat.reduceLT, Nat.reduceAdd, Nat.reduceEqDiff, Nat.reduceLeDiff, Int32.reduceLT, Int32.reduceLE, reduceIte, true_and, and_true, true_or, or_true, not_true_eq_false, not_false_eq_true, false_imp_iff, true_imp_iff, implies_true]
    | succ k ih =>
      intro i hi
      have E := leF (a := n) (b := i) (by omega) (by omega)
      have vi : vp_in (nI i) 48 := nI_in (by omega) (by decide)
      have nx := ih (i + 1) (by omega)
      refine cx_run 60 mM_area_mo ?_
      by_cases g : gt i
      · have B1 : gr i = 1 := (hB _ (by omega)).1 g
        obtain ⟨c1, c2⟩ := hc i g
        have vc : vp_in (nI (cel i)) 8 := nI_in c2 (by decide)
        rw [arI_t g] at nx
        simp (decide := true) only [BmM_area, h45, h62, h68, h70, E, vi, vc, B1, c1, nI_1, nI_clamp (n := i) (by omega), nI_clamp (n := cel i) (by omega), EV, EW, CT, ev_o, ev_is, ev_gd, List.length_cons, List.length_nil, Nat.reduceLT, Nat.reduceAdd, Nat.reduceEqDiff, Nat.reduceLeDiff, Int32.reduceLT, Int32.reduceLE, reduceIte, true_and, and_true, true_or, or_true, not_true_eq_false, not_false_eq_true, false_imp_iff, true_imp_iff, implies_true]
        exact nx
      · have B1 : gr i = 0 := (hB _ (by omega)).2 g
        rw [arI_f g] at nx
        simp (decide := true) only [BmM_area, h45, h70, E, vi, B1, nI_1, nI_clamp (n := i) (by omega), EV, EW, CT, ev_o, ev_is, ev_gd, List.length_cons, List.length_nil, Nat.reduceLT, Nat.reduceAdd, Nat.reduceEqDiff, Nat.reduceLeDiff, Int32.reduceLT, Int32.reduceLE, reduceIte, true_and, and_true, true_or, or_true, not_true_eq_false, not_false_eq_true, false_imp_iff, true_imp_iff, implies_true]
        exact nx
  refine cx_met 60 mM_area_ok rfl ?_
  show cx_vc 60 none mM_area 12 0 0 _ _ 0 [some (.ref 45), none, none] [] w (87, 0, 0)
  simp (decide := true) only [BmM_area, h45, EV, EW, CT, ev_o, ev_is, ev_gd, List.length_cons, List.length_nil, Nat.reduceLT, Nat.reduceAdd, Nat.reduceEqDiff, Nat.reduceLeDiff, Int32.reduceLT, Int32.reduceLE, reduceIte, true_and, and_true, true_or, or_true, not_true_eq_false, not_false_eq_true, false_imp_iff, true_imp_iff, implies_true]
  exact lp n 0 (by omega)
set_option maxHeartbeats 8000000 in
theorem c_Co_totalArea {w : cx_W} {n : Nat} {gt : Nat → Prop} {gs ch ar : Nat → Int32} {cel : Nat → Nat} {x : Int32} (hn : n ≤ 48) (h13 : w 13 = oLi x) (h20 : w 20 = oCo (nI (rt_cnt gt n))) (h29 : w 29 = ai 48 gs) (hgs : GtR gs gt n) (h15 : w 15 = ai 8 ar) (h24 : w 24 = ai 48 ch) (hc : ∀ g, gt g → ch g = nI (cel g) ∧ cel g < 8) :
    cx_MC mCo_totalArea 11 0 0 [.ref 20] w 87 (fun r w2 => r = some (.int (arI gt (fun g => ar (cel g)) n)) ∧ w2 = w) := by
  have hcl := rt_cnt_le gt n
  have lp : ∀ (k i : Nat), i + k = n → cx_OK none mCo_totalArea 11 0 0 (fun r_ w2 _ => r_ = some (.int (arI gt (fun g => ar (cel g)) n)) ∧ w2 = w) 4 [some (.ref 20), some (.int (arI gt (fun g => ar (cel g)) i)), some (.int (nI (rt_cnt gt i)))] [] w (87, 0, 0) := by
    intro k
    induction k with
    | zero =>
      intro i hi
      have e : i = n := by omega
      subst e
      have E := leT (a := rt_cnt gt i) (b := rt_cnt gt i) (by omega) (by omega)
      refine cx_run 60 mCo_totalArea_mo ?_
      simp (decide := true) only [BmCo_totalArea, h20, E, EV, EW, CT, ev_o, ev_is, ev_gd, List.length_cons, List.length_nil, Nat.reduceLT, Nat.reduceAdd, Nat.reduceEqDiff, Nat.reduceLeDiff, Int32.reduceLT, Int32.reduceLE, reduceIte, true_and, and_true, true_or, or_true, not_true_eq_false, not_false_eq_true, false_imp_iff, true_imp_iff, implies_true]
    | succ k ih =>
      intro i hi
      have nx := ih (i + 1) (by omega)
      by_cases g : gt i
      · have hlt := rt_cnt_up g (show i < n by omega)
        have E := leF (a := rt_cnt gt n) (b := rt_cnt gt i) hlt (by omega)
        have vi : vp_in (nI (rt_cnt gt i)) 48 := nI_in (by omega) (by decide)
        have vg : vp_in (nI i) 48 := nI_in (by omega) (by decide)
        have hg := hgs i (by omega) g
        obtain ⟨c1, c2⟩ := hc i g
        have vc : vp_in (nI (cel i)) 8 := nI_in c2 (by decide)
        rw [arI_t g, rt_cnt_t g] at nx
        refine cx_run 60 mCo_totalArea_mo ?_
        simp (decide := true) only [BmCo_totalArea, BSC, h13, h15, h20, h24, h29, E, vi, vg, vc, hg, c1, nI_1, nI_clamp (n := rt_cnt gt i) (by omega), nI_clamp (n := i) (by omega), nI_clamp (n := cel i) (by omega), EV, EW, CT, ev_o, ev_is, ev_gd, List.length_cons, List.length_nil, Nat.reduceLT, Nat.reduceAdd, Nat.reduceEqDiff, Nat.reduceLeDiff, Int32.reduceLT, Int32.reduceLE, reduceIte, true_and, and_true, true_or, or_true, not_true_eq_false, not_false_eq_true, false_imp_iff, true_imp_iff, implies_true]
        exact nx
      · rw [arI_f g, rt_cnt_f g] at nx
        exact nx
  refine cx_met 60 mCo_totalArea_ok rfl ?_
  show cx_vc 60 none mCo_totalArea 11 0 0 _ _ 0 [some (.ref 20), none, none] [] w (87, 0, 0)
  simp (decide := true) only [BmCo_totalArea, EV, EW, CT, ev_o, ev_is, ev_gd, List.length_cons, List.length_nil, Nat.reduceLT, Nat.reduceAdd, Nat.reduceEqDiff, Nat.reduceLeDiff, Int32.reduceLT, Int32.reduceLE, reduceIte, true_and, and_true, true_or, or_true, not_true_eq_false, not_false_eq_true, false_imp_iff, true_imp_iff, implies_true]
  exact lp n 0 (by omega)
set_option maxHeartbeats 8000000 in
theorem c_C_area {w : cx_W} {n : Nat} {gt : Nat → Prop} {gs ch ar : Nat → Int32} {cel : Nat → Nat} {x : Int32} (hn : n ≤ 48) (h0 : w 0 = oC 1) (h13 : w 13 = oLi x) (h20 : w 20 = oCo (nI (rt_cnt gt n))) (h29 : w 29 = ai 48 gs) (hgs : GtR gs gt n) (h15 : w 15 = ai 8 ar) (h24 : w 24 = ai 48 ch) (hc : ∀ g, gt g → ch g = nI (cel g) ∧ cel g < 8) :
    cx_MC mC_area 12 0 0 [.ref 0] w 87 (fun r w2 => r = some (.int (arI gt (fun g => ar (cel g)) n)) ∧ w2 = w) := by
  refine cx_met 60 mC_area_ok rfl ?_
  show cx_vc 60 none mC_area 12 0 0 _ _ 0 [some (.ref 0)] [] w (87, 0, 0)
  simp (decide := true) only [BmC_area, h0, h20, EV, EW, CT, ev_o, ev_is, ev_gd, List.length_cons, List.length_nil, Nat.reduceLT, Nat.reduceAdd, Nat.reduceEqDiff, Nat.reduceLeDiff, Int32.reduceLT, Int32.reduceLE, reduceIte, true_and, and_true, true_or, or_true, not_true_eq_false, not_false_eq_true, false_imp_iff, true_imp_iff, implies_true]
  refine cx_cs1 11 0 0 (by decide) (c_Co_totalArea hn h13 h20 h29 hgs h15 h24 hc) fun r w2 h => ?_
  obtain ⟨rfl, rfl⟩ := h
  simp (decide := true) only [BmC_area, EV, EW, CT, ev_o, ev_is, ev_gd, List.length_cons, List.length_nil, Nat.reduceLT, Nat.reduceAdd, Nat.reduceEqDiff, Nat.reduceLeDiff, Int32.reduceLT, Int32.reduceLE, reduceIte, true_and, and_true, true_or, or_true, not_true_eq_false, not_false_eq_true, false_imp_iff, true_imp_iff, implies_true]
/-- what stands in the class's rows for latches -/
def LaC (w : cx_W) (n : Nat) (gt : Nat → Prop) (pl F cel : Nat → Nat) (fo oc : Nat) (gm ch pn fg ct : Nat → Int32) (rw : Nat → Int64) (x y1 y2 y3 y4 y5 : Int32) : Prop :=
  (n ≤ 48 ∧ oc ≤ 4 ∧ fo + oc ≤ 196 ∧ w 0 = oC 1 ∧ w 1 = oGr (nI n) ∧ w 6 = oCi y1 y2 y3 (nI oc) y4 y5 ∧ w 13 = oLi x ∧ w 17 = ai 8 pn ∧ w 20 = oCo (nI (rt_cnt gt n)) ∧ w 24 = ai 48 ch ∧ w 28 = az 48 gm ∧ w 30 = oCn (nI fo) (nI (fo + oc)) ∧ w 33 = ai 196 ct ∧ w 34 = al 196 rw ∧ w 35 = ai 48 fg) ∧ BR 48 gm gt ∧ ∀ g, gt g → ch g = nI (cel g) ∧ cel g < 8 ∧ pn (cel g) = nI (pl g) ∧ pl g ≤ 4 ∧ fg g = nI (F g) ∧ F g + pl g ≤ fo
theorem nI_ne1 {k : Nat} (h : k < 2 ^ 31) : (nI k = -1) = False := eq_false fun z => absurd (z ▸ nI_pos' h : (0 : Int32) ≤ -1) (by decide)
set_option maxHeartbeats 16000000 in
theorem c_C_latches_no {w : cx_W} {n : Nat} {gt : Nat → Prop} {pl F cel : Nat → Nat} {fo oc : Nat} {gm ch pn fg ct : Nat → Int32} {rw : Nat → Int64} {x y1 y2 y3 y4 y5 : Int32} (h : LaC w n gt pl F cel fo oc gm ch pn fg ct rw x y1 y2 y3 y4 y5) (a b : Int32) (h1 : a = -1 → ¬ isNet oc b) (h2 : ∀ g, g < n → gt g → a = nI g → ¬ isNet (pl g) b) :
    cx_MC mC_latches 12 0 0 [.ref 0, .int a, .int b] w 87 (fun r w2 => r = some (.long (-1)) ∧ w2 = w) := by
  obtain ⟨⟨hn, hoc, hfo, k0, k1, k6, k13, k17, k20, k24, k28, k30, k33, k34, k35⟩, hB, hc⟩ := h
  refine cx_met 60 mC_latches_ok rfl ?_
  show cx_vc 60 none mC_latches 12 0 0 _ _ 0 [some (.ref 0), some (.int a), some (.int b), none] [] w (87, 0, 0)
  by_cases e : a = -1
  · subst e
    rcases isNet_dec (h1 rfl) with e2 | ⟨e2, e3⟩
    · simp (decide := true) only [BmC_latches, BSC, k0, k6, k30, e2, EV, EW, CT, ev_o, ev_is, ev_gd, List.length_cons, List.length_nil, Nat.reduceLT, Nat.reduceAdd, Nat.reduceEqDiff, Nat.reduceLeDiff, Int32.reduceLT, Int32.reduceLE, reduceIte, true_and, and_true, true_or, or_true, not_true_eq_false, not_false_eq_true, false_imp_iff, true_imp_iff, implies_true]
    · simp (decide := true) only [BmC_latches, BSC, k0, k6, k30, e2, e3, EV, EW, CT, ev_o, ev_is, ev_gd, List.length_cons, List.length_nil, Nat.reduceLT, Nat.reduceAdd, Nat.reduceEqDiff, Nat.reduceLeDiff, Int32.reduceLT, Int32.reduceLE, reduceIte, true_and, and_true, true_or, or_true, not_true_eq_false, not_false_eq_true, false_imp_iff, true_imp_iff, implies_true]
  · have E : (a = -1) = False := eq_false e
    by_cases hg : isG n gt a
    · obtain ⟨g, gl, rfl, gg⟩ := hg
      obtain ⟨c1, c2, c3, c4, c5, c6⟩ := hc g gg
      have L0 : (nI g < 0) = False := eq_false (nI_pos (by omega))
      have L1 := leF (a := n) (b := g) gl (by omega)
      have v1 : vp_in (nI g) 48 := nI_in (by omega) (by decide)
      have vc : vp_in (nI (cel g)) 8 := nI_in c2 (by decide)
      have B1 : gm g = 1 := (hB g (by omega)).1 gg
      rcases isNet_dec (h2 g gl gg rfl) with e2 | ⟨e2, e3⟩
      · simp (decide := true) only [BmC_latches, BSC, k0, k1, k13, k17, k20, k24, k28, E, L0, L1, v1, vc, B1, e2, nI_clamp (n := g) (by omega), EV, EW, CT, ev_o, ev_is, ev_gd, List.length_cons, List.length_nil, Nat.reduceLT, Nat.reduceAdd, Nat.reduceEqDiff, Nat.reduceLeDiff, Int32.reduceLT, Int32.reduceLE, reduceIte, true_and, and_true, true_or, or_true, not_true_eq_false, not_false_eq_true, false_imp_iff, true_imp_iff, implies_true]
      · have e4 : (b < nI (pl g)) = False := eq_false (Int32.not_lt.mpr (of_eq_true e3))
        simp (decide := true) only [BmC_latches, BSC, k0, k1, k13, k17, k20, k24, k28, E, L0, L1, v1, vc, B1, c1, c3, e2, e3, e4, nI_clamp (n := g) (by omega), nI_clamp (n := cel g) (by omega), EV, EW, CT, ev_o, ev_is, ev_gd, List.length_cons, List.length_nil, Nat.reduceLT, Nat.reduceAdd, Nat.reduceEqDiff, Nat.reduceLeDiff, Int32.reduceLT, Int32.reduceLE, reduceIte, true_and, and_true, true_or, or_true, not_true_eq_false, not_false_eq_true, false_imp_iff, true_imp_iff, implies_true]
    · rcases isG_no hn hg with e2 | ⟨e2, e3⟩ | ⟨g, gl, rfl, ng⟩
      · simp (decide := true) only [BmC_latches, BSC, k0, k1, k20, E, e2, EV, EW, CT, ev_o, ev_is, ev_gd, List.length_cons, List.length_nil, Nat.reduceLT, Nat.reduceAdd, Nat.reduceEqDiff, Nat.reduceLeDiff, Int32.reduceLT, Int32.reduceLE, reduceIte, true_and, and_true, true_or, or_true, not_true_eq_false, not_false_eq_true, false_imp_iff, true_imp_iff, implies_true]
      · simp (decide := true) only [BmC_latches, BSC, k0, k1, k20, E, e2, e3, EV, EW, CT, ev_o, ev_is, ev_gd, List.length_cons, List.length_nil, Nat.reduceLT, Nat.reduceAdd, Nat.reduceEqDiff, Nat.reduceLeDiff, Int32.reduceLT, Int32.reduceLE, reduceIte, true_and, and_true, true_or, or_true, not_true_eq_false, not_false_eq_true, false_imp_iff, true_imp_iff, implies_true]
      · have L0 : (nI g < 0) = False := eq_false (nI_pos (by omega))
        have L1 := leF (a := n) (b := g) gl (by omega)
        have v1 : vp_in (nI g) 48 := nI_in (by omega) (by decide)
        have B1 : gm g = 0 := (hB g (by omega)).2 ng
        simp (decide := true) only [BmC_latches, BSC, k0, k1, k20, k28, E, L0, L1, v1, B1, nI_clamp (n := g) (by omega), EV, EW, CT, ev_o, ev_is, ev_gd, List.length_cons, List.length_nil, Nat.reduceLT, Nat.reduceAdd, Nat.reduceEqDiff, Nat.reduceLeDiff, Int32.reduceLT, Int32.reduceLE, reduceIte, true_and, and_true, true_or, or_true, not_true_eq_false, not_false_eq_true, false_imp_iff, true_imp_iff, implies_true]
set_option maxHeartbeats 16000000 in
theorem c_C_latches_out {w : cx_W} {n : Nat} {gt : Nat → Prop} {pl F cel : Nat → Nat} {fo oc o : Nat} {gm ch pn fg ct : Nat → Int32} {rw : Nat → Int64} {x y1 y2 y3 y4 y5 : Int32} (h : LaC w n gt pl F cel fo oc gm ch pn fg ct rw x y1 y2 y3 y4 y5) (ho : o < oc) :
    cx_MC mC_latches 12 0 0 [.ref 0, .int (-1), .int (nI o)] w 87 (fun r w2 => r = some (.long ((ct (fo + o)).toInt64 + (64 : Int32).toInt64 * rw (fo + o))) ∧ w2 = w) := by
  obtain ⟨⟨hn, hoc, hfo, k0, k1, k6, k13, k17, k20, k24, k28, k30, k33, k34, k35⟩, hB, hc⟩ := h
  have L0 : (nI o < 0) = False := eq_false (nI_pos (by omega))
  have L1 := leF (a := oc) (b := o) ho (by omega)
  have L2 := ltT (a := o) (b := oc) ho (by omega)
  have N := nI_ne1 (k := fo + o) (by omega)
  have v : vp_in (nI (fo + o)) 196 := nI_in (by omega) (by decide)
  refine cx_met 60 mC_latches_ok rfl ?_
  show cx_vc 60 none mC_latches 12 0 0 _ _ 0 [some (.ref 0), some (.int (-1)), some (.int (nI o)), none] [] w (87, 0, 0)
  simp (decide := true) only [BmC_latches, BSC, k0, k6, k30, k33, k34, L0, L1, L2, N, v, nI_add, nI_clamp (n := fo + o) (by omega), EV, EW, CT, ev_o, ev_is, ev_gd, List.length_cons, List.length_nil, Nat.reduceLT, Nat.reduceAdd, Nat.reduceEqDiff, Nat.reduceLeDiff, Int32.reduceLT, Int32.reduceLE, reduceIte, true_and, and_true, true_or, or_true, not_true_eq_false, not_false_eq_true, false_imp_iff, true_imp_iff, implies_true]
set_option maxHeartbeats 16000000 in
theorem c_C_latches_pin {w : cx_W} {n : Nat} {gt : Nat → Prop} {pl F cel : Nat → Nat} {fo oc g p : Nat} {gm ch pn fg ct : Nat → Int32} {rw : Nat → Int64} {x y1 y2 y3 y4 y5 : Int32} (h : LaC w n gt pl F cel fo oc gm ch pn fg ct rw x y1 y2 y3 y4 y5) (gl : g < n) (gg : gt g) (hp : p < pl g) :
    cx_MC mC_latches 12 0 0 [.ref 0, .int (nI g), .int (nI p)] w 87 (fun r w2 => r = some (.long ((ct (F g + p)).toInt64 + (64 : Int32).toInt64 * rw (F g + p))) ∧ w2 = w) := by
  obtain ⟨⟨hn, hoc, hfo, k0, k1, k6, k13, k17, k20, k24, k28, k30, k33, k34, k35⟩, hB, hc⟩ := h
  obtain ⟨c1, c2, c3, c4, c5, c6⟩ := hc g gg
  have E := nI_ne1 (k := g) (by omega)
  have L0 : (nI g < 0) = False := eq_false (nI_pos (by omega))
  have L1 := leF (a := n) (b := g) gl (by omega)
  have v1 : vp_in (nI g) 48 := nI_in (by omega) (by decide)
  have vc : vp_in (nI (cel g)) 8 := nI_in c2 (by decide)
  have B1 : gm g = 1 := (hB g (by omega)).1 gg
  have P0 : (nI p < 0) = False := eq_false (nI_pos (by omega))
  have P1 := leF (a := pl g) (b := p) hp (by omega)
  have P2 := ltT (a := p) (b := pl g) hp (by omega)
  have N := nI_ne1 (k := F g + p) (by omega)
  have v : vp_in (nI (F g + p)) 196 := nI_in (by omega) (by decide)
  refine cx_met 60 mC_latches_ok rfl ?_
  show cx_vc 60 none mC_latches 12 0 0 _ _ 0 [some (.ref 0), some (.int (nI g)), some (.int (nI p)), none] [] w (87, 0, 0)
  simp (decide := true) only [BmC_latches, BSC, k0, k1, k13, k17, k20, k24, k28, k30, k33, k34, k35, E, L0, L1, v1, vc, B1, c1, c3, c5, P0, P1, P2, N, v, nI_add, nI_clamp (n := g) (by omega), nI_clamp (n := cel g) (by omega), nI_clamp (n := F g + p) (by omega), EV, EW, CT, ev_o, ev_is, ev_gd, List.length_cons, List.length_nil, Nat.reduceLT, Nat.reduceAdd, Nat.reduceEqDiff, Nat.reduceLeDiff, Int32.reduceLT, Int32.reduceLE, reduceIte, true_and, and_true, true_or, or_true, not_true_eq_false, not_false_eq_true, false_imp_iff, true_imp_iff, implies_true]
/-- what stands in the reference's rows for latches -/
def LaM (w : cx_W) (n : Nat) (gt : Nat → Prop) (pl : Nat → Nat) (oc : Nat) (gr so kp : Nat → Int32) (lr : Nat → Int64) (x0 x1 x2 x5 x7 x8 x9 : Int32) : Prop :=
  (n ≤ 48 ∧ oc ≤ 4 ∧ w 45 = oM x0 x1 x2 (nI n) (nI oc) x5 1 x7 x8 x9 ∧ w 70 = az 48 gr ∧ w 73 = ai 196 so ∧ w 76 = ai 196 kp ∧ w 77 = al 196 lr) ∧ BR 48 gr gt ∧ (∀ g, gt g → pl g ≤ 4) ∧ (∀ g p, gt g → p < 4 → (p < pl g → ∃ v : Nat, v < 48 ∧ so (4 * g + p) = nI v) ∧ (¬ p < pl g → so (4 * g + p) = -1)) ∧ ∀ o, o < oc → ∃ v : Nat, v < 48 ∧ so (192 + o) = nI v
set_option maxHeartbeats 16000000 in
theorem c_M_latches_no {w : cx_W} {n : Nat} {gt : Nat → Prop} {pl : Nat → Nat} {oc : Nat} {gr so kp : Nat → Int32} {lr : Nat → Int64} {x0 x1 x2 x5 x7 x8 x9 : Int32} (h : LaM w n gt pl oc gr so kp lr x0 x1 x2 x5 x7 x8 x9) (a b : Int32) (h1 : a = -1 → ¬ isNet oc b) (h2 : ∀ g, g < n → gt g → a = nI g → ¬ isNet (pl g) b) :
    cx_MC mM_latches 12 0 0 [.ref 45, .int a, .int b] w 87 (fun r w2 => r = some (.long (-1)) ∧ w2 = w) := by
  obtain ⟨⟨hn, hoc, k45, k70, k73, k76, k77⟩, hB, hpl4, hs, ho⟩ := h
  refine cx_met 60 mM_latches_ok rfl ?_
  show cx_vc 60 none mM_latches 12 0 0 _ _ 0 [some (.ref 45), some (.int a), some (.int b), none, none] [] w (87, 0, 0)
  by_cases e : a = -1
  · subst e
    rcases isNet_dec (h1 rfl) with e2 | ⟨e2, e3⟩
    · simp (decide := true) only [BmM_latches, BSM, k45, e2, EV, EW, CT, ev_o, ev_is, ev_gd, List.length_cons, List.length_nil, Nat.reduceLT, Nat.reduceAdd, Nat.reduceEqDiff, Nat.reduceLeDiff, Int32.reduceLT, Int32.reduceLE, reduceIte, true_and, and_true, true_or, or_true, not_true_eq_false, not_false_eq_true, false_imp_iff, true_imp_iff, implies_true]
    · simp (decide := true) only [BmM_latches, BSM, k45, e2, e3, EV, EW, CT, ev_o, ev_is, ev_gd, List.length_cons, List.length_nil, Nat.reduceLT, Nat.reduceAdd, Nat.reduceEqDiff, Nat.reduceLeDiff, Int32.reduceLT, Int32.reduceLE, reduceIte, true_and, and_true, true_or, or_true, not_true_eq_false, not_false_eq_true, false_imp_iff, true_imp_iff, implies_true]
  · have E : (a = -1) = False := eq_false e
    by_cases hg : isG n gt a
    · obtain ⟨g, gl, rfl, gg⟩ := hg
      have L0 : (nI g < 0) = False := eq_false (nI_pos (by omega))
      have L1 := leF (a := n) (b := g) gl (by omega)
      have v1 : vp_in (nI g) 48 := nI_in (by omega) (by decide)
      have B1 : gr g = 1 := (hB g (by omega)).1 gg
      by_cases e4 : isNet 4 b
      · obtain ⟨p, p4, rfl⟩ : ∃ p : Nat, p < 4 ∧ b = nI p := ⟨_, (e4.lt (by omega)).1, (e4.lt (by omega)).2⟩
        have hp : ¬ p < pl g := fun z => h2 g gl gg rfl ⟨Int32.not_lt.mpr (nI_pos' (by omega)), Int32.not_le.mpr (nI_lt z (by have := hpl4 g gg; omega))⟩
        have P0 : (nI p < 0) = False := eq_false (nI_pos (by omega))
        have P1 : ((4 : Int32) ≤ nI p) = False := (lek (a := p) (c := 4) (x := 4) rfl (by omega) (by decide)).trans (eq_false (by omega))
        have hso := (hs g p gg p4).2 hp
        have v : vp_in (nI (4 * g + p)) 196 := nI_in (by omega) (by decide)
        have M1 : ((0 : Int32) ≤ -1) = False := by decide
        simp (decide := true) only [BmM_latches, BSM, k45, k70, k73, E, L0, L1, v1, B1, P0, P1, v, hso, M1, mu4, nI_add, nI_clamp (n := g) (by omega), nI_clamp (n := 4 * g + p) (by omega), EV, EW, CT, ev_o, ev_is, ev_gd, List.length_cons, List.length_nil, Nat.reduceLT, Nat.reduceAdd, Nat.reduceEqDiff, Nat.reduceLeDiff, Int32.reduceLT, Int32.reduceLE, reduceIte, true_and, and_true, true_or, or_true, not_true_eq_false, not_false_eq_true, false_imp_iff, true_imp_iff, implies_true]
      · rcases isNet_dec e4 with e2 | ⟨e2, e3⟩
        · simp (decide := true) only [BmM_latches, BSM, k45, k70, E, L0, L1, v1, B1, e2, nI_clamp (n := g) (by omega), EV, EW, CT, ev_o, ev_is, ev_gd, List.length_cons, List.length_nil, Nat.reduceLT, Nat.reduceAdd, Nat.reduceEqDiff, Nat.reduceLeDiff, Int32.reduceLT, Int32.reduceLE, reduceIte, true_and, and_true, true_or, or_true, not_true_eq_false, not_false_eq_true, false_imp_iff, true_imp_iff, implies_true]
        · have e3 : ((4 : Int32) ≤ b) = True := e3
          simp (decide := true) only [BmM_latches, BSM, k45, k70, E, L0, L1, v1, B1, e2, e3, nI_clamp (n := g) (by omega), EV, EW, CT, ev_o, ev_is, ev_gd, List.length_cons, List.length_nil, Nat.reduceLT, Nat.reduceAdd, Nat.reduceEqDiff, Nat.reduceLeDiff, Int32.reduceLT, Int32.reduceLE, reduceIte, true_and, and_true, true_or, or_true, not_true_eq_false, not_false_eq_true, false_imp_iff, true_imp_iff, implies_true]
    · rcases isG_no hn hg with e2 | ⟨e2, e3⟩ | ⟨g, gl, rfl, ng⟩
      · simp (decide := true) only [BmM_latches, BSM, k45, E, e2, EV, EW, CT, ev_o, ev_is, ev_gd, List.length_cons, List.length_nil, Nat.reduceLT, Nat.reduceAdd, Nat.reduceEqDiff, Nat.reduceLeDiff, Int32.reduceLT, Int32.reduceLE, reduceIte, true_and, and_true, true_or, or_true, not_true_eq_false, not_false_eq_true, false_imp_iff, true_imp_iff, implies_true]
      · simp (decide := true) only [BmM_latches, BSM, k45, E, e2, e3, EV, EW, CT, ev_o, ev_is, ev_gd, List.length_cons, List.length_nil, Nat.reduceLT, Nat.reduceAdd, Nat.reduceEqDiff, Nat.reduceLeDiff, Int32.reduceLT, Int32.reduceLE, reduceIte, true_and, and_true, true_or, or_true, not_true_eq_false, not_false_eq_true, false_imp_iff, true_imp_iff, implies_true]
      · have L0 : (nI g < 0) = False := eq_false (nI_pos (by omega))
        have L1 := leF (a := n) (b := g) gl (by omega)
        have v1 : vp_in (nI g) 48 := nI_in (by omega) (by decide)
        have B1 : gr g = 0 := (hB g (by omega)).2 ng
        simp (decide := true) only [BmM_latches, BSM, k45, k70, E, L0, L1, v1, B1, nI_clamp (n := g) (by omega), EV, EW, CT, ev_o, ev_is, ev_gd, List.length_cons, List.length_nil, Nat.reduceLT, Nat.reduceAdd, Nat.reduceEqDiff, Nat.reduceLeDiff, Int32.reduceLT, Int32.reduceLE, reduceIte, true_and, and_true, true_or, or_true, not_true_eq_false, not_false_eq_true, false_imp_iff, true_imp_iff, implies_true]
set_option maxHeartbeats 16000000 in
theorem c_M_latches_out {w : cx_W} {n : Nat} {gt : Nat → Prop} {pl : Nat → Nat} {oc o : Nat} {gr so kp : Nat → Int32} {lr : Nat → Int64} {x0 x1 x2 x5 x7 x8 x9 : Int32} (h : LaM w n gt pl oc gr so kp lr x0 x1 x2 x5 x7 x8 x9) (hoo : o < oc) :
    cx_MC mM_latches 12 0 0 [.ref 45, .int (-1), .int (nI o)] w 87 (fun r w2 => r = some (.long ((kp (192 + o)).toInt64 + (64 : Int32).toInt64 * lr (192 + o))) ∧ w2 = w) := by
  obtain ⟨⟨hn, hoc, k45, k70, k73, k76, k77⟩, hB, hpl4, hs, ho⟩ := h
  obtain ⟨sv, s1, s2⟩ := ho o hoo
  have L0 : (nI o < 0) = False := eq_false (nI_pos (by omega))
  have L1 := leF (a := oc) (b := o) hoo (by omega)
  have A1 : (192 : Int32) + nI o = nI (192 + o) := nI_add 192 o
  have v : vp_in (nI (192 + o)) 196 := nI_in (by omega) (by decide)
  have M1 := ge0 (k := sv) (by omega)
  have M2 : (nI sv < 0) = False := eq_false (nI_pos (by omega))
  refine cx_met 60 mM_latches_ok rfl ?_
  show cx_vc 60 none mM_latches 12 0 0 _ _ 0 [some (.ref 45), some (.int (-1)), some (.int (nI o)), none, none] [] w (87, 0, 0)
  simp (decide := true) only [BmM_latches, BSM, k45, k73, k76, k77, L0, L1, A1, v, s2, M1, M2, nI_clamp (n := 192 + o) (by omega), EV, EW, CT, ev_o, ev_is, ev_gd, List.length_cons, List.length_nil, Nat.reduceLT, Nat.reduceAdd, Nat.reduceEqDiff, Nat.reduceLeDiff, Int32.reduceLT, Int32.reduceLE, reduceIte, true_and, and_true, true_or, or_true, not_true_eq_false, not_false_eq_true, false_imp_iff, true_imp_iff, implies_true]
set_option maxHeartbeats 16000000 in
theorem c_M_latches_pin {w : cx_W} {n : Nat} {gt : Nat → Prop} {pl : Nat → Nat} {oc g p : Nat} {gr so kp : Nat → Int32} {lr : Nat → Int64} {x0 x1 x2 x5 x7 x8 x9 : Int32} (h : LaM w n gt pl oc gr so kp lr x0 x1 x2 x5 x7 x8 x9) (gl : g < n) (gg : gt g) (hp : p < pl g) (hp4 : p < 4) :
    cx_MC mM_latches 12 0 0 [.ref 45, .int (nI g), .int (nI p)] w 87 (fun r w2 => r = some (.long ((kp (4 * g + p)).toInt64 + (64 : Int32).toInt64 * lr (4 * g + p))) ∧ w2 = w) := by
  obtain ⟨⟨hn, hoc, k45, k70, k73, k76, k77⟩, hB, hpl4, hs, ho⟩ := h
  obtain ⟨sv, s1, s2⟩ := (hs g p gg hp4).1 hp
  have E := nI_ne1 (k := g) (by omega)
  have L0 : (nI g < 0) = False := eq_false (nI_pos (by omega))
  have L1 := leF (a := n) (b := g) gl (by omega)
  have v1 : vp_in (nI g) 48 := nI_in (by omega) (by decide)
  have B1 : gr g = 1 := (hB g (by omega)).1 gg
  have P0 : (nI p < 0) = False := eq_false (nI_pos (by omega))
  have P1 : ((4 : Int32) ≤ nI p) = False := (lek (a := p) (c := 4) (x := 4) rfl (by omega) (by decide)).trans (eq_false (by omega))
  have v : vp_in (nI (4 * g + p)) 196 := nI_in (by omega) (by decide)
  have M1 := ge0 (k := sv) (by omega)
  have M2 : (nI sv < 0) = False := eq_false (nI_pos (by omega))
  refine cx_met 60 mM_latches_ok rfl ?_
  show cx_vc 60 none mM_latches 12 0 0 _ _ 0 [some (.ref 45), some (.int (nI g)), some (.int (nI p)), none, none] [] w (87, 0, 0)
  simp (decide := true) only [BmM_latches, BSM, k45, k70, k73, k76, k77, E, L0, L1, v1, B1, P0, P1, v, s2, M1, M2, mu4, nI_add, nI_clamp (n := g) (by omega), nI_clamp (n := 4 * g + p) (by omega), EV, EW, CT, ev_o, ev_is, ev_gd, List.length_cons, List.length_nil, Nat.reduceLT, Nat.reduceAdd, Nat.reduceEqDiff, Nat.reduceLeDiff, Int32.reduceLT, Int32.reduceLE, reduceIte, true_and, and_true, true_or, or_true, not_true_eq_false, not_false_eq_true, false_imp_iff, true_imp_iff, implies_true]
