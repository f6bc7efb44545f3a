/-! The order of the gates: the given side. Own work. -/
def ArW (w : cx_W) (n : Nat) (gt : Nat → Prop) (pl F : Nat → Nat) (fo oc : Nat) (S tbl cn : Nat → Nat) (gs ch pn tb sr fg gm ct : Nat → Int32) : Prop :=
  MvW w n gt pl F fo oc S tbl gs ch pn tb sr fg ∧ w 1 = oGr (nI n) ∧ w 28 = az 48 gm ∧ BR 48 gm gt ∧ w 33 = ai 196 ct ∧ (∀ e, e < fo + oc → ct e = nI (cn e) ∧ cn e ≤ 61) ∧ w 40 = oMa
theorem ArW.of {w w1 : cx_W} {n : Nat} {gt : Nat → Prop} {pl F : Nat → Nat} {fo oc : Nat} {S tbl cn : Nat → Nat} {gs ch pn tb sr fg gm ct : Nat → Int32} (h : ArW w n gt pl F fo oc S tbl cn gs ch pn tb sr fg gm ct) (hk : ∀ k, k < 41 → w1 k = w k) : ArW w1 n gt pl F fo oc S tbl cn gs ch pn tb sr fg gm ct := by
  obtain ⟨a, b, c, d, e, f, g⟩ := h
  exact ⟨a.of fun k q => hk k (by omega), (hk 1 (by omega)).trans b, (hk 28 (by omega)).trans c, d, (hk 33 (by omega)).trans e, f, (hk 40 (by omega)).trans g⟩
set_option maxHeartbeats 8000000 in
theorem rdy_loop {w : cx_W} {n : Nat} {gt PL : Nat → Prop} {pl F : Nat → Nat} {fo oc : Nat} {S tbl cn : Nat → Nat} {gs ch pn tb sr fg gm ct pr : Nat → Int32} {g : Nat} {b : Bool} {dd : Nat} (hA : ArW w n gt pl F fo oc S tbl cn gs ch pn tb sr fg gm ct) (h43 : w 43 = az 48 pr) (hpr : BR 48 pr PL) (hg : gt g) (hb : b = true ↔ ∀ p, p < pl g → cn (F g + p) = 0 → gt (S (F g + p)) → PL (S (F g + p))) :
    ∀ (m p : Nat) (l4 : Option Value), p + m = pl g → (∀ q, q < p → cn (F g + q) = 0 → gt (S (F g + q)) → PL (S (F g + q))) →
    cx_OK none mMa_isReady (dd + 3) 0 0 (fun r_ w2 _ => r_ = some (.int (if b = true then 1 else 0)) ∧ w2 = w) 11 [some (.ref 40), some (.int (nI g)), some (.int (nI (F g))), some (.int (nI p)), l4] [] w (87, 0, 0) := by
  obtain ⟨⟨⟨hn, ⟨x13, h13⟩, h17, h19, h20, h24, h29, h30, h31, h35⟩, hG, hfo, hgd, hinj, hsr⟩, h1, h28, hB, h33, hct, h40⟩ := hA
  obtain ⟨g1, g2, g3, c, c1, c2, c3, c4, c5, c6⟩ := hgd g hg
  have vg : vp_in (nI g) 48 := nI_in (by omega) (by decide)
  have vc : vp_in (nI c) 8 := nI_in c1 (by decide)
  intro m
  induction m with
  | zero =>
    intro p l4 hp hq
    have E := leT (a := pl g) (b := p) (by omega) (by omega)
    have eb : b = true := hb.mpr fun q h => hq q (by omega)
    refine cx_run 100 mMa_isReady_mo ?_
    simp (decide := true) only [BmMa_isReady, BSC, h40, h20, h24, h13, h17, vg, vc, c2, c3, E, eb, nI_clamp (n := g) (by omega), nI_clamp (n := c) (by omega), EV, EW, CT, ev_o, ev_is, ev_gd, List.length_cons, List.length_nil, Nat.reduceLT, Nat.reduceAdd, Nat.reduceEqDiff, Nat.reduceLeDiff, Int32.reduceLT, Int32.reduceLE, reduceIte, true_and, and_true, true_or, or_true, not_true_eq_false, not_false_eq_true, false_imp_iff, true_imp_iff, implies_true]
  | succ m ih =>
    intro p l4 hp hq
    have E := leF (a := pl g) (b := p) (by omega) (by omega)
    have ve : vp_in (nI (F g + p)) 196 := nI_in (by omega) (by decide)
    obtain ⟨d1, d2⟩ := hct (F g + p) (by omega)
    obtain ⟨s1, s2⟩ := hsr (F g + p) (by omega)
    have vs : vp_in (nI (S (F g + p))) 48 := nI_in s2 (by decide)
    have ps : (nI (S (F g + p)) < 0) = False := eq_false (nI_pos (by omega))
    have nx : (cn (F g + p) = 0 → gt (S (F g + p)) → PL (S (F g + p))) → ∀ l4, cx_OK none mMa_isReady (dd + 3) 0 0 (fun r_ w2 _ => r_ = some (.int (if b = true then 1 else 0)) ∧ w2 = w) 11 [some (.ref 40), some (.int (nI g)), some (.int (nI (F g))), some (.int (nI (p + 1))), l4] [] w (87, 0, 0) := fun h l4 => ih (p + 1) l4 (by omega) fun q2 hq2 => by
      by_cases e : q2 = p
      · rw [e]; exact h
      · exact hq q2 (by omega)
    refine cx_run 100 mMa_isReady_mo ?_
    by_cases q : cn (F g + p) = 0
    · have Z : (nI (cn (F g + p)) = 0) = True := eq_true (by rw [q]; rfl)
      by_cases gs_ : gt (S (F g + p))
      · have hsn := (hgd _ gs_).1
        have EG := leF (a := n) (b := S (F g + p)) hsn (by omega)
        have LG := ltT (a := S (F g + p)) (b := n) hsn (by omega)
        have FM : gm (S (F g + p)) = 1 := (hB _ s2).1 gs_
        by_cases pl_ : PL (S (F g + p))
        · have FP : pr (S (F g + p)) = 1 := (hpr _ s2).1 pl_
          simp (decide := true) only [BmMa_isReady, BSC, h40, h1, h20, h24, h13, h17, h28, h30, h31, h33, h43, vg, vc, ve, vs, ps, c2, c3, d1, s1, E, Z, EG, LG, FM, FP, nI_add, nI_clamp (n := g) (by omega), nI_clamp (n := c) (by omega), nI_clamp (n := F g + p) (by omega), nI_clamp (n := S (F g + p)) (by omega), nI_1, EV, EW, CT, ev_o, ev_is, ev_gd, List.length_cons, List.length_nil, Nat.reduceLT, Nat.reduceAdd, Nat.reduceEqDiff, Nat.reduceLeDiff, Int32.reduceLT, Int32.reduceLE, reduceIte, true_and, and_true, true_or, or_true, not_true_eq_false, not_false_eq_true, false_imp_iff, true_imp_iff, implies_true]
          exact nx (fun _ _ => pl_) _
        · have FP : pr (S (F g + p)) = 0 := (hpr _ s2).2 pl_
          have eb : b = false := by
            cases e : b
            · rfl
            · exact absurd (hb.mp e p (by omega) q gs_) pl_
          simp (decide := true) only [BmMa_isReady, BSC, h40, h1, h20, h24, h13, h17, h28, h30, h31, h33, h43, vg, vc, ve, vs, ps, c2, c3, d1, s1, E, Z, EG, LG, FM, FP, eb, Bool.false_eq_true, nI_add, nI_clamp (n := g) (by omega), nI_clamp (n := c) (by omega), nI_clamp (n := F g + p) (by omega), nI_clamp (n := S (F g + p)) (by omega), nI_1, EV, EW, CT, ev_o, ev_is, ev_gd, List.length_cons, List.length_nil, Nat.reduceLT, Nat.reduceAdd, Nat.reduceEqDiff, Nat.reduceLeDiff, Int32.reduceLT, Int32.reduceLE, reduceIte, true_and, and_true, true_or, or_true, not_true_eq_false, not_false_eq_true, false_imp_iff, true_imp_iff, implies_true]
      · have FM : gm (S (F g + p)) = 0 := (hB _ s2).2 gs_
        by_cases hsn : S (F g + p) < n
        · have EG := leF (a := n) (b := S (F g + p)) hsn (by omega)
          have LG := ltT (a := S (F g + p)) (b := n) hsn (by omega)
          simp (decide := true) only [BmMa_isReady, BSC, h40, h1, h20, h24, h13, h17, h28, h30, h31, h33, vg, vc, ve, vs, ps, c2, c3, d1, s1, E, Z, EG, LG, FM, nI_add, nI_clamp (n := g) (by omega), nI_clamp (n := c) (by omega), nI_clamp (n := F g + p) (by omega), nI_clamp (n := S (F g + p)) (by omega), nI_1, EV, EW, CT, ev_o, ev_is, ev_gd, List.length_cons, List.length_nil, Nat.reduceLT, Nat.reduceAdd, Nat.reduceEqDiff, Nat.reduceLeDiff, Int32.reduceLT, Int32.reduceLE, reduceIte, true_and, and_true, true_or, or_true, not_true_eq_false, not_false_eq_true, false_imp_iff, true_imp_iff, implies_true]
          exact nx (fun _ z => absurd z gs_) _
        · have EG := leT (a := n) (b := S (F g + p)) (by omega) (by omega)
          have LG := ltF (a := S (F g + p)) (b := n) (by omega) (by omega)
          simp (decide := true) only [BmMa_isReady, BSC, h40, h1, h20, h24, h13, h17, h28, h30, h31, h33, vg, vc, ve, vs, ps, c2, c3, d1, s1, E, Z, EG, LG, FM, nI_add, nI_clamp (n := g) (by omega), nI_clamp (n := c) (by omega), nI_clamp (n := F g + p) (by omega), nI_clamp (n := S (F g + p)) (by omega), nI_1, EV, EW, CT, ev_o, ev_is, ev_gd, List.length_cons, List.length_nil, Nat.reduceLT, Nat.reduceAdd, Nat.reduceEqDiff, Nat.reduceLeDiff, Int32.reduceLT, Int32.reduceLE, reduceIte, true_and, and_true, true_or, or_true, not_true_eq_false, not_false_eq_true, false_imp_iff, true_imp_iff, implies_true]
          exact nx (fun _ z => absurd z gs_) _
    · have Z : (nI (cn (F g + p)) = 0) = False := (z0 (by omega)).trans (eq_false q)
      simp (decide := true) only [BmMa_isReady, BSC, h40, h20, h24, h13, h17, h30, h31, h33, vg, vc, ve, c2, c3, d1, s1, E, Z, nI_add, nI_clamp (n := g) (by omega), nI_clamp (n := c) (by omega), nI_clamp (n := F g + p) (by omega), nI_1, EV, EW, CT, ev_o, ev_is, ev_gd, List.length_cons, List.length_nil, Nat.reduceLT, Nat.reduceAdd, Nat.reduceEqDiff, Nat.reduceLeDiff, Int32.reduceLT, Int32.reduceLE, reduceIte, true_and, and_true, true_or, or_true, not_true_eq_false, not_false_eq_true, false_imp_iff, true_imp_iff, implies_true]
      exact nx (fun z => absurd z q) _
set_option maxHeartbeats 8000000 in
theorem c_Ma_isReady {w : cx_W} {n : Nat} {gt PL : Nat → Prop} {pl F : Nat → Nat} {fo oc : Nat} {S tbl cn : Nat → Nat} {gs ch pn tb sr fg gm ct pr : Nat → Int32} {g : Nat} {b : Bool} {dd : Nat} (hA : ArW w n gt pl F fo oc S tbl cn gs ch pn tb sr fg gm ct) (h43 : w 43 = az 48 pr) (hpr : BR 48 pr PL) (hg : gt g) (hb : b = true ↔ ∀ p, p < pl g → cn (F g + p) = 0 → gt (S (F g + p)) → PL (S (F g + p))) :
    cx_MC mMa_isReady (dd + 3) 0 0 [.ref 40, .int (nI g)] w 87 (fun r_ w2 => r_ = some (.int (if b = true then 1 else 0)) ∧ w2 = w) := by
  have hA' := hA
  obtain ⟨⟨⟨hn, ⟨x13, h13⟩, h17, h19, h20, h24, h29, h30, h31, h35⟩, hG, hfo, hgd, hinj, hsr⟩, h1, h28, hB, h33, hct, h40⟩ := hA
  obtain ⟨g1, g2, g3, c, c1, c2, c3, c4, c5, c6⟩ := hgd g hg
  have vg : vp_in (nI g) 48 := nI_in (by omega) (by decide)
  refine cx_met 60 mMa_isReady_ok rfl ?_
  show cx_vc 60 none mMa_isReady (dd + 3) 0 0 _ _ 0 [some (.ref 40), some (.int (nI g)), none, none, none] [] w (87, 0, 0)
  simp (decide := true) only [BmMa_isReady, BSC, h40, h30, h35, vg, g2, nI_clamp (n := g) (by omega), EV, EW, CT, ev_o, ev_is, ev_gd, List.length_cons, List.length_nil, Nat.reduceLT, Nat.reduceAdd, Nat.reduceEqDiff, Nat.reduceLeDiff, Int32.reduceLT, Int32.reduceLE, reduceIte, true_and, and_true, true_or, or_true, not_true_eq_false, not_false_eq_true, false_imp_iff, true_imp_iff, implies_true]
  exact rdy_loop hA' h43 hpr hg hb (pl g) 0 none (by omega) (fun q h => by omega)
