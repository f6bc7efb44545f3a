/-! Moving latches through a gate: the given side. Own work. -/
/-- the rows that moving reads -/
def MvW (w : cx_W) (n : Nat) (gt : Nat → Prop) (pl : Nat → Nat) (F : Nat → Nat) (fo oc : Nat) (S : Nat → Nat) (tbl : Nat → Nat) (gs ch pn tb sr fg : Nat → Int32) : Prop :=
  (n ≤ 48 ∧ (∃ x, w 13 = oLi x) ∧ w 17 = ai 8 pn ∧ w 19 = ai 8 tb ∧ w 20 = oCo (nI (rt_cnt gt n)) ∧ w 24 = ai 48 ch ∧ w 29 = ai 48 gs ∧ w 30 = oCn (nI fo) (nI (fo + oc)) ∧ w 31 = ai 196 sr ∧ w 35 = ai 48 fg) ∧
  GtR gs gt n ∧ fo + oc ≤ 196 ∧ (∀ g, gt g → g < n ∧ fg g = nI (F g) ∧ F g + pl g ≤ fo ∧ ∃ c, c < 8 ∧ ch g = nI c ∧ pn c = nI (pl g) ∧ pl g ≤ 4 ∧ tb c = nI (tbl g) ∧ tbl g < 65536) ∧
  (∀ g g' p p', gt g → gt g' → p < pl g → p' < pl g' → F g + p = F g' + p' → g = g' ∧ p = p') ∧ ∀ e, e < fo + oc → sr e = nI (S e) ∧ S e < 48
theorem MvW.of {w w1 : cx_W} {n : Nat} {gt : Nat → Prop} {pl : Nat → Nat} {F : Nat → Nat} {fo oc : Nat} {S tbl : Nat → Nat} {gs ch pn tb sr fg : Nat → Int32} (h : MvW w n gt pl F fo oc S tbl gs ch pn tb sr fg) (hk : ∀ k, (k < 33 ∨ k = 35) → w1 k = w k) : MvW w1 n gt pl F fo oc S tbl gs ch pn tb sr fg := by
  obtain ⟨⟨hn, ⟨x, h13⟩, h17, h19, h20, h24, h29, h30, h31, h35⟩, r⟩ := h
  exact ⟨⟨hn, ⟨x, (hk 13 (by omega)).trans h13⟩, (hk 17 (by omega)).trans h17, (hk 19 (by omega)).trans h19, (hk 20 (by omega)).trans h20, (hk 24 (by omega)).trans h24, (hk 29 (by omega)).trans h29, (hk 30 (by omega)).trans h30, (hk 31 (by omega)).trans h31, (hk 35 (by omega)).trans h35⟩, r⟩
/-- counts and rows of all connections -/
def CtR (fo oc : Nat) (ct : Nat → Int32) (rw : Nat → Int64) (cn ro : Nat → Nat) : Prop := ∀ e, e < fo + oc → ct e = nI (cn e) ∧ rw e = lN (ro e) ∧ cn e ≤ 61 ∧ ro e < 2 ^ cn e
set_option maxHeartbeats 8000000 in
theorem cm_loop {w : cx_W} {n : Nat} {gt : Nat → Prop} {pl : Nat → Nat} {F : Nat → Nat} {fo oc : Nat} {S tbl cn ro : Nat → Nat} {gs ch pn tb sr fg ct : Nat → Int32} {rw : Nat → Int64} {y0 y1 : Int32} {g : Nat} {b : Bool} {dd : Nat} (hW : MvW w n gt pl F fo oc S tbl gs ch pn tb sr fg) (h36 : w 36 = oRe y0 y1) (h33 : w 33 = ai 196 ct) (hc : CtR fo oc ct rw cn ro) (hg : gt g) (hb : b = true ↔ ∀ p, p < pl g → ¬ cn (F g + p) = 0) :
    ∀ (m p : Nat), p + m = pl g → (∀ q, q < p → ¬ cn (F g + q) = 0) →
    cx_OK none mRe_canMove (dd + 3) 0 0 (fun r_ w2 _ => r_ = some (.int (if b = true then 1 else 0)) ∧ w2 = w) 11 [some (.ref 36), some (.int (nI g)), some (.int (nI (F g))), some (.int (nI p))] [] w (87, 0, 0) := by
  obtain ⟨⟨hn, ⟨x13, h13⟩, h17, h19, h20, h24, h29, h30, h31, h35⟩, hG, hfo, hgd, hinj, hsr⟩ := hW
  obtain ⟨g1, g2, g3, c, c1, c2, c3, c4, c5, c6⟩ := hgd g hg
  have vg : vp_in (nI g) 48 := nI_in (by omega) (by decide)
  have vc : vp_in (nI c) 8 := nI_in c1 (by decide)
  intro m
  induction m with
  | zero =>
    intro p hp hq
    have E := leT (a := pl g) (b := p) (by omega) (by omega)
    have eb : b = true := hb.mpr fun q h => hq q (by omega)
    refine cx_run 100 mRe_canMove_mo ?_
    simp (decide := true) only [BmRe_canMove, BSC, h36, h20, h24, h13, h17, vg, vc, c2, c3, E, eb, nI_clamp (n := g) (by omega), nI_clamp (n := c) (by omega), EV, EW, CT, ev_o, ev_is, ev_gd, List.length_cons, List.length_nil, Nat.reduceLT, Nat.reduceAdd, Nat.reduceEqDiff, Nat.reduceLeDiff, Int32.reduceLT, Int32.reduceLE, reduceIte, true_and, and_true, true_or, or_true, not_true_eq_false, not_false_eq_true, false_imp_iff, true_imp_iff, implies_true]
  | succ m ih =>
    intro p hp hq
    have E := leF (a := pl g) (b := p) (by omega) (by omega)
    have ve : vp_in (nI (F g + p)) 196 := nI_in (by omega) (by decide)
    obtain ⟨d1, d2, d3, d4⟩ := hc (F g + p) (by omega)
    refine cx_run 100 mRe_canMove_mo ?_
    by_cases q : cn (F g + p) = 0
    · have eb : b = false := by
        cases e : b
        · rfl
        · exact absurd q (hb.mp e p (by omega))
      have Z : (nI (cn (F g + p)) = 0) = True := eq_true (by rw [q]; rfl)
      simp (decide := true) only [BmRe_canMove, BSC, h36, h20, h24, h13, h17, h30, h33, vg, vc, ve, c2, c3, d1, E, Z, eb, Bool.false_eq_true, nI_add, nI_clamp (n := g) (by omega), nI_clamp (n := c) (by omega), nI_clamp (n := F g + p) (by omega), EV, EW, CT, ev_o, ev_is, ev_gd, List.length_cons, List.length_nil, Nat.reduceLT, Nat.reduceAdd, Nat.reduceEqDiff, Nat.reduceLeDiff, Int32.reduceLT, Int32.reduceLE, reduceIte, true_and, and_true, true_or, or_true, not_true_eq_false, not_false_eq_true, false_imp_iff, true_imp_iff, implies_true]
    · have Z : (nI (cn (F g + p)) = 0) = False := (z0 (by omega)).trans (eq_false q)
      simp (decide := true) only [BmRe_canMove, BSC, h36, h20, h24, h13, h17, h30, h33, vg, vc, ve, c2, c3, d1, E, Z, nI_add, nI_clamp (n := g) (by omega), nI_clamp (n := c) (by omega), nI_clamp (n := F g + p) (by omega), nI_1, EV, EW, CT, ev_o, ev_is, ev_gd, List.length_cons, List.length_nil, Nat.reduceLT, Nat.reduceAdd, Nat.reduceEqDiff, Nat.reduceLeDiff, Int32.reduceLT, Int32.reduceLE, reduceIte, true_and, and_true, true_or, or_true, not_true_eq_false, not_false_eq_true, false_imp_iff, true_imp_iff, implies_true]
      refine ih (p + 1) (by omega) fun q2 h => ?_
      by_cases e : q2 = p
      · rw [e]; exact q
      · exact hq q2 (by omega)
set_option maxHeartbeats 8000000 in
theorem c_Re_canMove {w : cx_W} {n : Nat} {gt : Nat → Prop} {pl : Nat → Nat} {F : Nat → Nat} {fo oc : Nat} {S tbl cn ro : Nat → Nat} {gs ch pn tb sr fg ct : Nat → Int32} {rw : Nat → Int64} {y0 y1 : Int32} {g : Nat} {b : Bool} {dd : Nat} (hW : MvW w n gt pl F fo oc S tbl gs ch pn tb sr fg) (h36 : w 36 = oRe y0 y1) (h33 : w 33 = ai 196 ct) (hc : CtR fo oc ct rw cn ro) (hg : gt g) (hb : b = true ↔ ∀ p, p < pl g → ¬ cn (F g + p) = 0) :
    cx_MC mRe_canMove (dd + 3) 0 0 [.ref 36, .int (nI g)] w 87 (fun r_ w2 => r_ = some (.int (if b = true then 1 else 0)) ∧ w2 = w) := by
  have hW' := hW
  obtain ⟨⟨hn, ⟨x13, h13⟩, h17, h19, h20, h24, h29, h30, h31, h35⟩, hG, hfo, hgd, hinj, hsr⟩ := hW
  obtain ⟨g1, g2, g3, c, c1, c2, c3, c4, c5, c6⟩ := hgd g hg
  have vg : vp_in (nI g) 48 := nI_in (by omega) (by decide)
  refine cx_met 60 mRe_canMove_ok rfl ?_
  show cx_vc 60 none mRe_canMove (dd + 3) 0 0 _ _ 0 [some (.ref 36), some (.int (nI g)), none, none] [] w (87, 0, 0)
  simp (decide := true) only [BmRe_canMove, BSC, h36, h30, h35, vg, g2, nI_clamp (n := g) (by omega), EV, EW, CT, ev_o, ev_is, ev_gd, List.length_cons, List.length_nil, Nat.reduceLT, Nat.reduceAdd, Nat.reduceEqDiff, Nat.reduceLeDiff, Int32.reduceLT, Int32.reduceLE, reduceIte, true_and, and_true, true_or, or_true, not_true_eq_false, not_false_eq_true, false_imp_iff, true_imp_iff, implies_true]
  exact cm_loop hW' h36 h33 hc hg hb (pl g) 0 (by omega) (fun q h => by omega)
/-- the counts and rows when the first p pins of g have been taken from -/
def cnT (F : Nat → Nat) (g p : Nat) (cn : Nat → Nat) (e : Nat) : Nat := if F g ≤ e ∧ e < F g + p then cn e - 1 else cn e
def roT (F : Nat → Nat) (g p : Nat) (cn ro : Nat → Nat) (e : Nat) : Nat := if F g ≤ e ∧ e < F g + p then ro e % 2 ^ (cn e - 1) else ro e
/-- and when the first i connections have been given the value -/
def cnP (S : Nat → Nat) (g i : Nat) (cn : Nat → Nat) (e : Nat) : Nat := if e < i ∧ S e = g then cn e + 1 else cn e
def roP (S : Nat → Nat) (g i v : Nat) (ro : Nat → Nat) (e : Nat) : Nat := if e < i ∧ S e = g then 2 * ro e + v else ro e
set_option maxHeartbeats 16000000 in
theorem mv_loopB {w : cx_W} {n : Nat} {gt : Nat → Prop} {pl : Nat → Nat} {F : Nat → Nat} {fo oc : Nat} {S tbl cn ro : Nat → Nat} {gs ch pn tb sr fg : Nat → Int32} {y0 y1 pbs : Int32} {g v : Nat} {dd : Nat} {Q : cx_Q} (hW : MvW w n gt pl F fo oc S tbl gs ch pn tb sr fg) (h36 : w 36 = oRe y0 y1) (hg : g < 48) (hv : v < 2) (hb : ∀ e, e < fo + oc → cn e ≤ 60 ∧ ro e < 2 ^ cn e)
    (hQ : ∀ (w1 : cx_W) (ct : Nat → Int32) (rw : Nat → Int64), w1 33 = ai 196 ct → w1 34 = al 196 rw → (∀ k, ¬ k = 33 ∧ ¬ k = 34 → w1 k = w k) → (∀ e, e < fo + oc → ct e = nI (cnP S g (fo + oc) cn e) ∧ rw e = lN (roP S g (fo + oc) v ro e)) → Q none w1 (87, 0, 0)) :
    ∀ (m i : Nat) (w1 : cx_W) (ct : Nat → Int32) (rw : Nat → Int64), i + m = fo + oc → w1 33 = ai 196 ct → w1 34 = al 196 rw → (∀ k, ¬ k = 33 ∧ ¬ k = 34 → w1 k = w k) → (∀ e, e < fo + oc → ct e = nI (cnP S g i cn e) ∧ rw e = lN (roP S g i v ro e)) →
    cx_OK none mRe_moveAt (dd + 3) 0 0 Q 64 [some (.ref 36), some (.int (nI g)), some (.int (nI (F g))), some (.int pbs), some (.int (nI v)), some (.int (nI i))] [] w1 (87, 0, 0) := by
  obtain ⟨⟨hn, ⟨x13, h13⟩, h17, h19, h20, h24, h29, h30, h31, h35⟩, hG, hfo, hgd, hinj, hsr⟩ := hW
  intro m
  induction m with
  | zero =>
    intro i w1 ct rw hi h33 h34 hk hc
    have e : i = fo + oc := by omega
    subst e
    have E := leT (a := fo + oc) (b := fo + oc) (by omega) (by omega)
    have k36 := (hk 36 (by decide)).trans h36
    have k30 := (hk 30 (by decide)).trans h30
    refine cx_run 100 mRe_moveAt_mo ?_
    simp (decide := true) only [BmRe_moveAt, BSC, k36, k30, E, EV, EW, CT, ev_o, ev_is, ev_gd, List.length_cons, List.length_nil, Nat.reduceLT, Nat.reduceAdd, Nat.reduceEqDiff, Nat.reduceLeDiff, Int32.reduceLT, Int32.reduceLE, reduceIte, true_and, and_true, true_or, or_true, not_true_eq_false, not_false_eq_true, false_imp_iff, true_imp_iff, implies_true]
    exact hQ w1 ct rw h33 h34 hk hc
  | succ m ih =>
    intro i w1 ct rw hi h33 h34 hk hc
    have E := leF (a := fo + oc) (b := i) (by omega) (by omega)
    have k36 := (hk 36 (by decide)).trans h36
    have k30 := (hk 30 (by decide)).trans h30
    have k31 := (hk 31 (by decide)).trans h31
    have v1 : vp_in (nI i) 196 := nI_in (by omega) (by decide)
    obtain ⟨s1, s2⟩ := hsr i (by omega)
    obtain ⟨c1, c2⟩ := hc i (by omega)
    have e1 : cnP S g i cn i = cn i := if_neg (fun z => by omega)
    have e2 : roP S g i v ro i = ro i := if_neg (fun z => by omega)
    rw [e1] at c1
    rw [e2] at c2
    have ne : ∀ e, ¬ e = i → cnP S g (i + 1) cn e = cnP S g i cn e ∧ roP S g (i + 1) v ro e = roP S g i v ro e := fun e q => by
      unfold cnP roP
      by_cases z : e < i ∧ S e = g
      · rw [if_pos z, if_pos z, if_pos ⟨by omega, z.2⟩, if_pos ⟨by omega, z.2⟩]; exact ⟨rfl, rfl⟩
      · rw [if_neg z, if_neg z, if_neg (fun y => z ⟨by omega, y.2⟩), if_neg (fun y => z ⟨by omega, y.2⟩)]; exact ⟨rfl, rfl⟩
    refine cx_run 100 mRe_moveAt_mo ?_
    by_cases q : S i = g
    · have EQ : (nI (S i) = nI g) = True := eq_true (by rw [q])
      have el := l_push (a := ro i) (b := v) hv
      simp (decide := true) only [BmRe_moveAt, BSC, k36, k30, k31, h33, h34, E, v1, s1, EQ, c1, c2, el, nI_clamp (n := i) (by omega), nI_1, EV, EW, CT, ev_o, ev_is, ev_gd, List.length_cons, List.length_nil, Nat.reduceLT, Nat.reduceAdd, Nat.reduceEqDiff, Nat.reduceLeDiff, Int32.reduceLT, Int32.reduceLE, reduceIte, true_and, and_true, true_or, or_true, not_true_eq_false, not_false_eq_true, false_imp_iff, true_imp_iff, implies_true]
      refine ih (i + 1) _ (upd ct i (nI (cn i + 1))) (vp_updL rw i (lN (2 * ro i + v))) (by omega) (by simp only [cx_up, Nat.reduceEqDiff, reduceIte]) (by simp only [cx_up, Nat.reduceEqDiff, reduceIte]) (fun k z => by rw [← hk k z]; simp (disch := omega) only [cx_up, if_neg]) (fun e he => ?_)
      by_cases z : e = i
      · subst z
        rw [pk_us, pk_uLs]
        unfold cnP roP
        rw [if_pos ⟨by omega, q⟩, if_pos ⟨by omega, q⟩]
        exact ⟨rfl, rfl⟩
      · rw [pk_un z, pk_uLn z, (ne e z).1, (ne e z).2]; exact hc e he
    · have EQ : (nI (S i) = nI g) = False := eq_false (by rw [nI_eq (by omega) (by omega)]; exact q)
      simp (decide := true) only [BmRe_moveAt, BSC, k36, k30, k31, E, v1, s1, EQ, nI_clamp (n := i) (by omega), nI_1, EV, EW, CT, ev_o, ev_is, ev_gd, List.length_cons, List.length_nil, Nat.reduceLT, Nat.reduceAdd, Nat.reduceEqDiff, Nat.reduceLeDiff, Int32.reduceLT, Int32.reduceLE, reduceIte, true_and, and_true, true_or, or_true, not_true_eq_false, not_false_eq_true, false_imp_iff, true_imp_iff, implies_true]
      refine ih (i + 1) w1 ct rw (by omega) h33 h34 hk (fun e he => ?_)
      by_cases z : e = i
      · subst z
        have h1 : cnP S g (e + 1) cn e = cn e := if_neg (fun y => q y.2)
        have h2 : roP S g (e + 1) v ro e = ro e := if_neg (fun y => q y.2)
        rw [h1, h2]; exact ⟨c1, c2⟩
      · rw [(ne e z).1, (ne e z).2]; exact hc e he
/-- the bits that the first pins give -/
def tkB (F : Nat → Nat) (g : Nat) (cn ro : Nat → Nat) (p : Nat) : Bool := (ro (F g + p)).testBit (cn (F g + p) - 1)
set_option maxHeartbeats 16000000 in
theorem mv_loopA {w : cx_W} {n : Nat} {gt : Nat → Prop} {pl : Nat → Nat} {F : Nat → Nat} {fo oc : Nat} {S tbl cn ro : Nat → Nat} {gs ch pn tb sr fg : Nat → Int32} {y0 y1 : Int32} {g : Nat} {Q : cx_Q} (hW : MvW w n gt pl F fo oc S tbl gs ch pn tb sr fg) (h36 : w 36 = oRe y0 y1) (hg : gt g) (hb : ∀ e, e < fo + oc → cn e ≤ 60 ∧ ro e < 2 ^ cn e) (hpos : ∀ p, p < pl g → ¬ cn (F g + p) = 0)
    (hQ : ∀ (w1 : cx_W) (ct : Nat → Int32) (rw : Nat → Int64), w1 33 = ai 196 ct → w1 34 = al 196 rw → (∀ k, ¬ k = 33 ∧ ¬ k = 34 → w1 k = w k) → (∀ e, e < fo + oc → ct e = nI (cnP S g (fo + oc) (cnT F g (pl g) cn) e) ∧ rw e = lN (roP S g (fo + oc) ((tbl g).testBit (pb (tkB F g cn ro) (pl g))).toNat (roT F g (pl g) cn ro) e)) → Q none w1 (87, 0, 0)) :
    ∀ (m p : Nat) (w1 : cx_W) (ct : Nat → Int32) (rw : Nat → Int64) (l5 : Option Value), p + m = pl g → w1 33 = ai 196 ct → w1 34 = al 196 rw → (∀ k, ¬ k = 33 ∧ ¬ k = 34 → w1 k = w k) → (∀ e, e < fo + oc → ct e = nI (cnT F g p cn e) ∧ rw e = lN (roT F g p cn ro e)) →
    cx_OK none mRe_moveAt 8 0 0 Q 14 [some (.ref 36), some (.int (nI g)), some (.int (nI (F g))), some (.int (nI (pb (tkB F g cn ro) p))), some (.int (nI p)), l5] [] w1 (87, 0, 0) := by
  have hW' := hW
  obtain ⟨⟨hn, ⟨x13, h13⟩, h17, h19, h20, h24, h29, h30, h31, h35⟩, hG, hfo, hgd, hinj, hsr⟩ := hW
  obtain ⟨g1, g2, g3, c, c1, c2, c3, c4, c5, c6⟩ := hgd g hg
  have vg : vp_in (nI g) 48 := nI_in (by omega) (by decide)
  have vc : vp_in (nI c) 8 := nI_in c1 (by decide)
  intro m
  induction m with
  | zero =>
    intro p w1 ct rw l5 hp h33 h34 hk hc
    have ep : p = pl g := by omega
    subst ep
    have E := leT (a := pl g) (b := pl g) (by omega) (by omega)
    have k36 := (hk 36 (by decide)).trans h36
    have k20 := (hk 20 (by decide)).trans h20
    have k24 := (hk 24 (by decide)).trans h24
    have k13 := (hk 13 (by decide)).trans h13
    have k17 := (hk 17 (by decide)).trans h17
    have k19 := (hk 19 (by decide)).trans h19
    have k30 := (hk 30 (by decide)).trans h30
    have hpb := pb_lt (tkB F g cn ro) (pl g)
    have h16 : 2 ^ pl g ≤ 2 ^ 4 := Nat.pow_le_pow_right (by decide) c4
    have eb := bitN (a := tbl g) (k := pb (tkB F g cn ro) (pl g)) (by omega) (by omega)
    rw [← tb_bool] at eb
    refine cx_run 100 mRe_moveAt_mo ?_
    simp (decide := true) only [BmRe_moveAt, BSC, k36, k20, k24, k13, k17, k19, vg, vc, c2, c3, c5, E, eb, nI_clamp (n := g) (by omega), nI_clamp (n := c) (by omega), EV, EW, CT, ev_o, ev_is, ev_gd, List.length_cons, List.length_nil, Nat.reduceLT, Nat.reduceAdd, Nat.reduceEqDiff, Nat.reduceLeDiff, Int32.reduceLT, Int32.reduceLE, reduceIte, true_and, and_true, true_or, or_true, not_true_eq_false, not_false_eq_true, false_imp_iff, true_imp_iff, implies_true]
    refine mv_loopB (w := w) (dd := 5) (cn := cnT F g (pl g) cn) (ro := roT F g (pl g) cn ro) hW' h36 (by omega) (by cases (tbl g).testBit (pb (tkB F g cn ro) (pl g)) <;> decide) (fun e he => ?_) hQ (fo + oc) 0 w1 ct rw (by omega) h33 h34 hk (fun e he => ?_)
    · have ⟨b1, b2⟩ := hb e he
      unfold cnT roT
      split
      · exact ⟨by omega, Nat.mod_lt _ (Nat.two_pow_pos _)⟩
      · exact ⟨b1, b2⟩
    · have h1 : cnP S g 0 (cnT F g (pl g) cn) e = cnT F g (pl g) cn e := if_neg (fun z => by omega)
      have h2 : roP S g 0 ((tbl g).testBit (pb (tkB F g cn ro) (pl g))).toNat (roT F g (pl g) cn ro) e = roT F g (pl g) cn ro e := if_neg (fun z => by omega)
      rw [h1, h2]; exact hc e he
  | succ m ih =>
    intro p w1 ct rw l5 hp h33 h34 hk hc
    have E := leF (a := pl g) (b := p) (by omega) (by omega)
    have k36 := (hk 36 (by decide)).trans h36
    have k20 := (hk 20 (by decide)).trans h20
    have k24 := (hk 24 (by decide)).trans h24
    have k13 := (hk 13 (by decide)).trans h13
    have k17 := (hk 17 (by decide)).trans h17
    have k30 := (hk 30 (by decide)).trans h30
    have ve : vp_in (nI (F g + p)) 196 := nI_in (by omega) (by decide)
    obtain ⟨d1, d2⟩ := hc (F g + p) (by omega)
    have e1 : cnT F g p cn (F g + p) = cn (F g + p) := if_neg (fun z => by omega)
    have e2 : roT F g p cn ro (F g + p) = ro (F g + p) := if_neg (fun z => by omega)
    rw [e1] at d1
    rw [e2] at d2
    have ⟨b1, b2⟩ := hb (F g + p) (by omega)
    have hps := hpos p (by omega)
    obtain ⟨cm, hcm⟩ : ∃ cm, cn (F g + p) = cm + 1 := ⟨cn (F g + p) - 1, by omega⟩
    have h63 : (2 : Nat) ^ cn (F g + p) ≤ 2 ^ 60 := Nat.pow_le_pow_right (by decide) b1
    have m1 : nI (cn (F g + p)) - 1 = nI cm := by rw [hcm]; exact nI_pred _
    have lb := l_bit (a := ro (F g + p)) (k := cm) (by omega) (by omega)
    have lm : lN (ro (F g + p)) &&& (Int32.toInt64 1 <<< ((nI cm).toInt64 &&& 63) - Int32.toInt64 1) = lN (ro (F g + p) % 2 ^ cm) := by
      have e : Int32.toInt64 1 = (1 : Int64) := by decide
      rw [e]; exact l_mask (by omega)
    have eT : nI (ro (F g + p) / 2 ^ cm % 2) = nI (tkB F g cn ro p).toNat := by unfold tkB; rw [hcm, Nat.add_sub_cancel, tb_bool]
    have po := pb_or (f := tkB F g cn ro) (k := p) (by omega)
    refine cx_run 100 mRe_moveAt_mo ?_
    simp (decide := true) only [BmRe_moveAt, BSC, k36, k20, k24, k13, k17, k30, h33, h34, vg, vc, ve, c2, c3, d1, d2, E, m1, lb, lm, eT, po, nI_add, nI_clamp (n := g) (by omega), nI_clamp (n := c) (by omega), nI_clamp (n := F g + p) (by omega), nI_1, EV, EW, CT, ev_o, ev_is, ev_gd, List.length_cons, List.length_nil, Nat.reduceLT, Nat.reduceAdd, Nat.reduceEqDiff, Nat.reduceLeDiff, Int32.reduceLT, Int32.reduceLE, reduceIte, true_and, and_true, true_or, or_true, not_true_eq_false, not_false_eq_true, false_imp_iff, true_imp_iff, implies_true]
    refine ih (p + 1) _ (upd ct (F g + p) (nI cm)) (vp_updL rw (F g + p) (lN (ro (F g + p) % 2 ^ cm))) _ (by omega) (by simp only [cx_up, Nat.reduceEqDiff, reduceIte]) (by simp only [cx_up, Nat.reduceEqDiff, reduceIte]) (fun k z => by rw [← hk k z]; simp (disch := omega) only [cx_up, if_neg]) (fun e he => ?_)
    by_cases z : e = F g + p
    · subst z
      rw [pk_us, pk_uLs]
      unfold cnT roT
      rw [if_pos ⟨by omega, by omega⟩, if_pos ⟨by omega, by omega⟩, hcm, Nat.add_sub_cancel]
      exact ⟨rfl, rfl⟩
    · rw [pk_un z, pk_uLn z]
      have := hc e he
      unfold cnT roT at this ⊢
      by_cases y : F g ≤ e ∧ e < F g + p
      · rw [if_pos ⟨y.1, by omega⟩, if_pos ⟨y.1, by omega⟩]
        rw [if_pos y, if_pos y] at this
        exact this
      · rw [if_neg (fun q => y ⟨q.1, by omega⟩), if_neg (fun q => y ⟨q.1, by omega⟩)]
        rw [if_neg y, if_neg y] at this
        exact this
set_option maxHeartbeats 8000000 in
theorem c_Re_moveAt {w : cx_W} {n : Nat} {gt : Nat → Prop} {pl : Nat → Nat} {F : Nat → Nat} {fo oc : Nat} {S tbl cn ro : Nat → Nat} {gs ch pn tb sr fg ct : Nat → Int32} {rw : Nat → Int64} {y0 y1 : Int32} {g : Nat} (hW : MvW w n gt pl F fo oc S tbl gs ch pn tb sr fg) (h36 : w 36 = oRe y0 y1) (h33 : w 33 = ai 196 ct) (h34 : w 34 = al 196 rw) (hc : ∀ e, e < fo + oc → ct e = nI (cn e) ∧ rw e = lN (ro e)) (hg : gt g) (hb : ∀ e, e < fo + oc → cn e ≤ 60 ∧ ro e < 2 ^ cn e) (hpos : ∀ p, p < pl g → ¬ cn (F g + p) = 0) :
    cx_MC mRe_moveAt 8 0 0 [.ref 36, .int (nI g)] w 87 (fun r_ w1 => r_ = none ∧ ∃ (ct : Nat → Int32) (rw : Nat → Int64), w1 33 = ai 196 ct ∧ w1 34 = al 196 rw ∧ (∀ k, ¬ k = 33 ∧ ¬ k = 34 → w1 k = w k) ∧ (∀ e, e < fo + oc → ct e = nI (cnP S g (fo + oc) (cnT F g (pl g) cn) e) ∧ rw e = lN (roP S g (fo + oc) ((tbl g).testBit (pb (tkB F g cn ro) (pl g))).toNat (roT F g (pl g) cn ro) e))) := by
  have hW' := hW
  obtain ⟨⟨hn, ⟨x13, h13⟩, h17, h19, h20, h24, h29, h30, h31, h35⟩, hG, hfo, hgd, hinj, hsr⟩ := hW
  obtain ⟨g1, g2, g3, c, c1, c2, c3, c4, c5, c6⟩ := hgd g hg
  have vg : vp_in (nI g) 48 := nI_in (by omega) (by decide)
  refine cx_met 60 mRe_moveAt_ok rfl ?_
  show cx_vc 60 none mRe_moveAt 8 0 0 _ _ 0 [some (.ref 36), some (.int (nI g)), none, none, none, none] [] w (87, 0, 0)
  simp (decide := true) only [BmRe_moveAt, BSC, h36, h30, h35, vg, g2, nI_clamp (n := g) (by omega), EV, EW, CT, ev_o, ev_is, ev_gd, List.length_cons, List.length_nil, Nat.reduceLT, Nat.reduceAdd, Nat.reduceEqDiff, Nat.reduceLeDiff, Int32.reduceLT, Int32.reduceLE, reduceIte, true_and, and_true, true_or, or_true, not_true_eq_false, not_false_eq_true, false_imp_iff, true_imp_iff, implies_true]
  refine mv_loopA (w := w) hW' h36 hg hb hpos (fun w1 ct rw a b c d => ⟨rfl, ct, rw, a, b, c, d⟩) (pl g) 0 w ct rw none (by omega) h33 h34 (fun _ _ => rfl) (fun e he => ?_)
  have h1 : cnT F g 0 cn e = cn e := if_neg (fun z => by omega)
  have h2 : roT F g 0 cn ro e = ro e := if_neg (fun z => by omega)
  rw [h1, h2]; exact hc e he
