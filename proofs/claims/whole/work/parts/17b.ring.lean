/-! Rings of latches: both sides. Own work. -/
def laN (G : Gr) (m : Nat) : Bool := decide (G.2.1 m = 1)
theorem laN_t {G : Gr} {m : Nat} (h : laN G m = true) : (G.2.1 m = 1) = True := eq_true (of_decide_eq_true h)
theorem laN_f {G : Gr} {m : Nat} (h : laN G m = false) : (G.2.1 m = 1) = False := eq_false (of_decide_eq_false h)
/-- drv: the driving node of a latch; ol: the ordinal of a latch's node -/
def DrvC (G : Gr) (lc : Nat) (nn dv od : Nat → Int32) (drv ol : Nat → Nat) : Prop :=
  (∀ l, l < lc → vp_in (dv l) 40 ∧ nn (dv l).toNatClampNeg = nI (drv l) ∧ drv l < G.1) ∧ ∀ m, m < G.1 → laN G m = true → od m = nI (ol m) ∧ ol m < lc
set_option maxHeartbeats 4000000 in
theorem ring_in {w : cx_W} {G : Gr} {nc ic lc oc l : Nat} {ib pb : Int32} {nn nl dv on od : Nat → Int32} {drv ol : Nat → Nat} {b : Bool} {dd : Nat} (hG : GW w G) (hn : G.1 ≤ 48) (h5 : w 5 = ai 48 od) (hC : CW w nc ic lc oc ib pb nn nl dv on) (hlc : lc ≤ 6) (hD : DrvC G lc nn dv od drv ol) (hl : l < lc) :
    ∀ (m s cur : Nat), s + m = lc → cur < G.1 → (laN G (fol (laN G) (fun x => drv (ol x)) m cur) = true → b = true) →
    (laN G (fol (laN G) (fun x => drv (ol x)) m cur) = false → ∀ l2 l3, cx_OK none mCi_hasLatchRing (dd + 1) 0 0 (fun r w2 _ => r = some (.int (if b = true then 1 else 0)) ∧ w2 = w) 2 [some (.ref 6), some (.int (nI (l + 1))), l2, l3] [] w (87, 0, 0)) →
    cx_OK none mCi_hasLatchRing (dd + 1) 0 0 (fun r w2 _ => r = some (.int (if b = true then 1 else 0)) ∧ w2 = w) 18 [some (.ref 6), some (.int (nI l)), some (.int (nI cur)), some (.int (nI s))] [] w (87, 0, 0) := by
  obtain ⟨h6, h7, h8, h9, h10⟩ := hC
  obtain ⟨g1, g2, g3, g4⟩ := hG
  intro m
  induction m with
  | zero =>
    intro s cur hs hcur k1 k2
    have E := leT (a := lc) (b := s) (by omega) (by omega)
    have v1 : vp_in (nI cur) 48 := nI_in (by omega) (by decide)
    refine cx_run 60 mCi_hasLatchRing_mo ?_
    cases q : laN G cur
    · have q1 := laN_f q
      simp (decide := true) only [BmCi_hasLatchRing, BSC, g1, g2, h6, E, v1, nI_clamp (n := cur) (by omega), q1, nI_1, EV, EW, CT, ev_o, ev_is, ev_gd, List.length_cons, List.length_nil, Nat.reduceLT, Nat.reduceAdd, Nat.reduceEqDiff, Nat.reduceLeDiff, Int32.reduceLT, Int32.reduceLE, reduceIte, true_and, and_true, true_or, or_true, not_true_eq_false, not_false_eq_true, false_imp_iff, true_imp_iff, implies_true]
      exact k2 q _ _
    · have q1 := laN_t q
      have e := k1 q
      simp (decide := true) only [BmCi_hasLatchRing, BSC, g1, g2, h6, E, v1, nI_clamp (n := cur) (by omega), q1, e, EV, EW, CT, ev_o, ev_is, ev_gd, List.length_cons, List.length_nil, Nat.reduceLT, Nat.reduceAdd, Nat.reduceEqDiff, Nat.reduceLeDiff, Int32.reduceLT, Int32.reduceLE, reduceIte, true_and, and_true, true_or, or_true, not_true_eq_false, not_false_eq_true, false_imp_iff, true_imp_iff, implies_true]
  | succ m ih =>
    intro s cur hs hcur k1 k2
    have E := leF (a := lc) (b := s) (by omega) (by omega)
    have v1 : vp_in (nI cur) 48 := nI_in (by omega) (by decide)
    refine cx_run 60 mCi_hasLatchRing_mo ?_
    cases q : laN G cur
    · have q1 := laN_f q
      rw [fol_n q] at k2
      simp (decide := true) only [BmCi_hasLatchRing, BSC, g1, g2, h6, E, v1, nI_clamp (n := cur) (by omega), q1, nI_1, EV, EW, CT, ev_o, ev_is, ev_gd, List.length_cons, List.length_nil, Nat.reduceLT, Nat.reduceAdd, Nat.reduceEqDiff, Nat.reduceLeDiff, Int32.reduceLT, Int32.reduceLE, reduceIte, true_and, and_true, true_or, or_true, not_true_eq_false, not_false_eq_true, false_imp_iff, true_imp_iff, implies_true]
      exact k2 q _ _
    · have q1 := laN_t q
      rw [fol_s q] at k1 k2
      have ⟨o1, o2⟩ := hD.2 cur hcur q
      have ⟨o3, o4, o5⟩ := hD.1 (ol cur) o2
      have v2 : vp_in (nI (ol cur)) 6 := nI_in (by omega) (by decide)
      simp (decide := true) only [BmCi_hasLatchRing, BSC, g1, g2, h5, h6, h7, h9, E, v1, v2, o1, o3, o4, nI_clamp (n := cur) (by omega), nI_clamp (n := ol cur) (by omega), q1, nI_1, EV, EW, CT, ev_o, ev_is, ev_gd, List.length_cons, List.length_nil, Nat.reduceLT, Nat.reduceAdd, Nat.reduceEqDiff, Nat.reduceLeDiff, Int32.reduceLT, Int32.reduceLE, reduceIte, true_and, and_true, true_or, or_true, not_true_eq_false, not_false_eq_true, false_imp_iff, true_imp_iff, implies_true]
      exact ih (s + 1) (drv (ol cur)) (by omega) o5 k1 k2
set_option maxHeartbeats 4000000 in
theorem ring_loop {w : cx_W} {G : Gr} {nc ic lc oc : Nat} {ib pb : Int32} {nn nl dv on od : Nat → Int32} {drv ol : Nat → Nat} {b : Bool} {dd : Nat} (hG : GW w G) (hn : G.1 ≤ 48) (h5 : w 5 = ai 48 od) (hC : CW w nc ic lc oc ib pb nn nl dv on) (hlc : lc ≤ 6) (hD : DrvC G lc nn dv od drv ol)
    (hb : b = false ↔ ∀ l, l < lc → laN G (fol (laN G) (fun x => drv (ol x)) lc (drv l)) = false) :
    ∀ (m l : Nat), l + m = lc → (∀ j, j < l → laN G (fol (laN G) (fun x => drv (ol x)) lc (drv j)) = false) → ∀ l2 l3,
    cx_OK none mCi_hasLatchRing (dd + 1) 0 0 (fun r w2 _ => r = some (.int (if b = true then 1 else 0)) ∧ w2 = w) 2 [some (.ref 6), some (.int (nI l)), l2, l3] [] w (87, 0, 0) := by
  have hC2 := hC
  have hG2 := hG
  obtain ⟨h6, h7, h8, h9, h10⟩ := hC
  obtain ⟨g1, g2, g3, g4⟩ := hG
  intro m
  induction m with
  | zero =>
    intro l hl hj l2 l3
    have e : b = false := hb.mpr fun j h => hj j (by omega)
    have E := leT (a := lc) (b := l) (by omega) (by omega)
    refine cx_run 60 mCi_hasLatchRing_mo ?_
    simp (decide := true) only [BmCi_hasLatchRing, h6, E, e, Bool.false_eq_true, EV, EW, CT, ev_o, ev_is, ev_gd, List.length_cons, List.length_nil, Nat.reduceLT, Nat.reduceAdd, Nat.reduceEqDiff, Nat.reduceLeDiff, Int32.reduceLT, Int32.reduceLE, reduceIte, true_and, and_true, true_or, or_true, not_true_eq_false, not_false_eq_true, false_imp_iff, true_imp_iff, implies_true]
  | succ m ih =>
    intro l hl hj l2 l3
    have E := leF (a := lc) (b := l) (by omega) (by omega)
    have v1 : vp_in (nI l) 6 := nI_in (by omega) (by decide)
    have ⟨o3, o4, o5⟩ := hD.1 l (by omega)
    refine cx_run 60 mCi_hasLatchRing_mo ?_
    simp (decide := true) only [BmCi_hasLatchRing, BSC, h6, h7, h9, E, v1, o3, o4, nI_clamp (n := l) (by omega), EV, EW, CT, ev_o, ev_is, ev_gd, List.length_cons, List.length_nil, Nat.reduceLT, Nat.reduceAdd, Nat.reduceEqDiff, Nat.reduceLeDiff, Int32.reduceLT, Int32.reduceLE, reduceIte, true_and, and_true, true_or, or_true, not_true_eq_false, not_false_eq_true, false_imp_iff, true_imp_iff, implies_true]
    refine ring_in hG2 hn h5 hC2 hlc hD (by omega) lc 0 (drv l) (by omega) o5 (fun h => ?_) (fun h l2 l3 => ih (l + 1) (by omega) (fun j hj2 => ?_) l2 l3)
    · cases q : b
      · have := hb.mp q l (by omega); rw [this] at h; exact absurd h (by decide)
      · rfl
    · by_cases e : j = l
      · rw [e]; exact h
      · exact hj j (by omega)
set_option maxHeartbeats 4000000 in
theorem c_Ci_ring {w : cx_W} {G : Gr} {nc ic lc oc : Nat} {ib pb : Int32} {nn nl dv on od : Nat → Int32} {drv ol : Nat → Nat} {b : Bool} {dd : Nat} (hG : GW w G) (hn : G.1 ≤ 48) (h5 : w 5 = ai 48 od) (hC : CW w nc ic lc oc ib pb nn nl dv on) (hlc : lc ≤ 6) (hD : DrvC G lc nn dv od drv ol)
    (hb : b = false ↔ ∀ l, l < lc → laN G (fol (laN G) (fun x => drv (ol x)) lc (drv l)) = false) :
    cx_MC mCi_hasLatchRing (dd + 1) 0 0 [.ref 6] w 87 (fun r w2 => r = some (.int (if b = true then 1 else 0)) ∧ w2 = w) := by
  refine cx_met 60 mCi_hasLatchRing_ok rfl ?_
  show cx_vc 60 none mCi_hasLatchRing (dd + 1) 0 0 _ _ 0 [some (.ref 6), none, none, none] [] w (87, 0, 0)
  simp only [BmCi_hasLatchRing, EV, EW, CT, ev_o, ev_is, ev_gd, List.length_cons, List.length_nil, Nat.reduceLT, Nat.reduceAdd, Nat.reduceEqDiff, Nat.reduceLeDiff, Int32.reduceLT, Int32.reduceLE, reduceIte, true_and, and_true, true_or, or_true, not_true_eq_false, not_false_eq_true, false_imp_iff, true_imp_iff, implies_true]
  exact ring_loop hG hn h5 hC hlc hD hb lc 0 (by omega) (fun j h => by omega) _ _
/-- the reference's side: nx leads from a latch's node to its driving node -/
def DrvM (H : Gr) (na dr no : Nat → Int32) (nx : Nat → Nat) : Prop :=
  ∀ m, m < H.1 → laN H m = true → vp_in (no m) 40 ∧ vp_in (dr (no m).toNatClampNeg) 40 ∧ na (dr (no m).toNatClampNeg).toNatClampNeg = nI (nx m) ∧ nx m < H.1
set_option maxHeartbeats 4000000 in
theorem mring_in {w : cx_W} {H : Gr} {nc j : Nat} {x1 x2 x4 x5 x6 x7 x8 x9 : Int32} {na dr no : Nat → Int32} {nx : Nat → Nat} {b : Bool} {dd : Nat} (h45 : w 45 = oM (nI nc) x1 x2 (nI H.1) x4 x5 x6 x7 x8 x9) (h47 : w 47 = ai 40 na) (h50 : w 50 = ai 40 dr) (h56 : w 56 = ai 48 H.2.1) (h59 : w 59 = ai 48 no) (hn : H.1 ≤ 48) (hD : DrvM H na dr no nx) (hj : j < nc) (hnc : nc ≤ 40) :
    ∀ (m s cur : Nat), s + m = 7 → cur < H.1 → (laN H (fol (laN H) nx m cur) = true → b = true) →
    (laN H (fol (laN H) nx m cur) = false → ∀ l2 l3, cx_OK none mM_ring dd 0 0 (fun r w2 _ => r = some (.int (if b = true then 1 else 0)) ∧ w2 = w) 2 [some (.ref 45), some (.int (nI (j + 1))), l2, l3] [] w (87, 0, 0)) →
    cx_OK none mM_ring dd 0 0 (fun r w2 _ => r = some (.int (if b = true then 1 else 0)) ∧ w2 = w) 19 [some (.ref 45), some (.int (nI j)), some (.int (nI cur)), some (.int (nI s))] [] w (87, 0, 0) := by
  intro m
  induction m with
  | zero =>
    intro s cur hs hcur k1 k2
    have hs7 : s = 7 := by omega
    subst hs7
    have v1 : vp_in (nI cur) 48 := nI_in (by omega) (by decide)
    refine cx_run 60 mM_ring_mo ?_
    have E : ((7 : Int32) ≤ nI 7) = True := eq_true (by decide)
    cases q : laN H cur
    · have q1 := laN_f q
      simp (decide := true) only [BmM_ring, h45, h56, E, v1, nI_clamp (n := cur) (by omega), q1, nI_1, EV, EW, CT, ev_o, ev_is, ev_gd, List.length_cons, List.length_nil, Nat.reduceLT, Nat.reduceAdd, Nat.reduceEqDiff, Nat.reduceLeDiff, Int32.reduceLT, Int32.reduceLE, reduceIte, true_and, and_true, true_or, or_true, not_true_eq_false, not_false_eq_true, false_imp_iff, true_imp_iff, implies_true]
      exact k2 q _ _
    · have q1 := laN_t q
      have e := k1 q
      simp (decide := true) only [BmM_ring, h45, h56, E, v1, nI_clamp (n := cur) (by omega), q1, e, EV, EW, CT, ev_o, ev_is, ev_gd, List.length_cons, List.length_nil, Nat.reduceLT, Nat.reduceAdd, Nat.reduceEqDiff, Nat.reduceLeDiff, Int32.reduceLT, Int32.reduceLE, reduceIte, true_and, and_true, true_or, or_true, not_true_eq_false, not_false_eq_true, false_imp_iff, true_imp_iff, implies_true]
  | succ m ih =>
    intro s cur hs hcur k1 k2
    have E : ((7 : Int32) ≤ nI s) = False := (le7 (by omega)).trans (eq_false (by omega))
    have v1 : vp_in (nI cur) 48 := nI_in (by omega) (by decide)
    refine cx_run 60 mM_ring_mo ?_
    cases q : laN H cur
    · have q1 := laN_f q
      rw [fol_n q] at k2
      simp (decide := true) only [BmM_ring, h45, h56, E, v1, nI_clamp (n := cur) (by omega), q1, nI_1, EV, EW, CT, ev_o, ev_is, ev_gd, List.length_cons, List.length_nil, Nat.reduceLT, Nat.reduceAdd, Nat.reduceEqDiff, Nat.reduceLeDiff, Int32.reduceLT, Int32.reduceLE, reduceIte, true_and, and_true, true_or, or_true, not_true_eq_false, not_false_eq_true, false_imp_iff, true_imp_iff, implies_true]
      exact k2 q _ _
    · have q1 := laN_t q
      rw [fol_s q] at k1 k2
      have ⟨o1, o2, o3, o4⟩ := hD cur hcur q
      simp (decide := true) only [BmM_ring, h45, h47, h50, h56, h59, E, v1, o1, o2, o3, nI_clamp (n := cur) (by omega), q1, nI_1, EV, EW, CT, ev_o, ev_is, ev_gd, List.length_cons, List.length_nil, Nat.reduceLT, Nat.reduceAdd, Nat.reduceEqDiff, Nat.reduceLeDiff, Int32.reduceLT, Int32.reduceLE, reduceIte, true_and, and_true, true_or, or_true, not_true_eq_false, not_false_eq_true, false_imp_iff, true_imp_iff, implies_true]
      exact ih (s + 1) (nx cur) (by omega) o4 k1 k2
set_option maxHeartbeats 4000000 in
theorem mring_loop {w : cx_W} {H : Gr} {nc : Nat} {x1 x2 x4 x5 x6 x7 x8 x9 : Int32} {na dr no : Nat → Int32} {nx nd : Nat → Nat} {b : Bool} {dd : Nat} (h45 : w 45 = oM (nI nc) x1 x2 (nI H.1) x4 x5 x6 x7 x8 x9) (h47 : w 47 = ai 40 na) (h50 : w 50 = ai 40 dr) (h56 : w 56 = ai 48 H.2.1) (h59 : w 59 = ai 48 no) (hn : H.1 ≤ 48) (hD : DrvM H na dr no nx) (hnc : nc ≤ 40)
    (hnd : ∀ j, j < nc → na j = nI (nd j) ∧ nd j < H.1) (hb : b = false ↔ ∀ j, j < nc → laN H (fol (laN H) nx 7 (nd j)) = false) :
    ∀ (m l : Nat), l + m = nc → (∀ j, j < l → laN H (fol (laN H) nx 7 (nd j)) = false) → ∀ l2 l3,
    cx_OK none mM_ring dd 0 0 (fun r w2 _ => r = some (.int (if b = true then 1 else 0)) ∧ w2 = w) 2 [some (.ref 45), some (.int (nI l)), l2, l3] [] w (87, 0, 0) := by
  intro m
  induction m with
  | zero =>
    intro l hl hj l2 l3
    have e : b = false := hb.mpr fun j h => hj j (by omega)
    have E := leT (a := nc) (b := l) (by omega) (by omega)
    refine cx_run 60 mM_ring_mo ?_
    simp (decide := true) only [BmM_ring, h45, E, e, Bool.false_eq_true, EV, EW, CT, ev_o, ev_is, ev_gd, List.length_cons, List.length_nil, Nat.reduceLT, Nat.reduceAdd, Nat.reduceEqDiff, Nat.reduceLeDiff, Int32.reduceLT, Int32.reduceLE, reduceIte, true_and, and_true, true_or, or_true, not_true_eq_false, not_false_eq_true, false_imp_iff, true_imp_iff, implies_true]
  | succ m ih =>
    intro l hl hj l2 l3
    have E := leF (a := nc) (b := l) (by omega) (by omega)
    have v1 : vp_in (nI l) 40 := nI_in (by omega) (by decide)
    have ⟨o4, o5⟩ := hnd l (by omega)
    refine cx_run 60 mM_ring_mo ?_
    simp (decide := true) only [BmM_ring, h45, h47, E, v1, o4, nI_clamp (n := l) (by omega), EV, EW, CT, ev_o, ev_is, ev_gd, List.length_cons, List.length_nil, Nat.reduceLT, Nat.reduceAdd, Nat.reduceEqDiff, Nat.reduceLeDiff, Int32.reduceLT, Int32.reduceLE, reduceIte, true_and, and_true, true_or, or_true, not_true_eq_false, not_false_eq_true, false_imp_iff, true_imp_iff, implies_true]
    refine mring_in h45 h47 h50 h56 h59 hn hD (by omega) hnc 7 0 (nd l) (by omega) o5 (fun h => ?_) (fun h l2 l3 => ih (l + 1) (by omega) (fun j hj2 => ?_) l2 l3)
    · cases q : b
      · have := hb.mp q l (by omega); rw [this] at h; exact absurd h (by decide)
      · rfl
    · by_cases e : j = l
      · rw [e]; exact h
      · exact hj j (by omega)
set_option maxHeartbeats 4000000 in
theorem c_M_ring {w : cx_W} {H : Gr} {nc : Nat} {x1 x2 x4 x5 x6 x7 x8 x9 : Int32} {na dr no : Nat → Int32} {nx nd : Nat → Nat} {b : Bool} {dd : Nat} (h45 : w 45 = oM (nI nc) x1 x2 (nI H.1) x4 x5 x6 x7 x8 x9) (h47 : w 47 = ai 40 na) (h50 : w 50 = ai 40 dr) (h56 : w 56 = ai 48 H.2.1) (h59 : w 59 = ai 48 no) (hn : H.1 ≤ 48) (hD : DrvM H na dr no nx) (hnc : nc ≤ 40)
    (hnd : ∀ j, j < nc → na j = nI (nd j) ∧ nd j < H.1) (hb : b = false ↔ ∀ j, j < nc → laN H (fol (laN H) nx 7 (nd j)) = false) :
    cx_MC mM_ring dd 0 0 [.ref 45] w 87 (fun r w2 => r = some (.int (if b = true then 1 else 0)) ∧ w2 = w) := by
  refine cx_met 60 mM_ring_ok rfl ?_
  show cx_vc 60 none mM_ring dd 0 0 _ _ 0 [some (.ref 45), none, none, none] [] w (87, 0, 0)
  simp only [BmM_ring, EV, EW, CT, ev_o, ev_is, ev_gd, List.length_cons, List.length_nil, Nat.reduceLT, Nat.reduceAdd, Nat.reduceEqDiff, Nat.reduceLeDiff, Int32.reduceLT, Int32.reduceLE, reduceIte, true_and, and_true, true_or, or_true, not_true_eq_false, not_false_eq_true, false_imp_iff, true_imp_iff, implies_true]
  exact mring_loop h45 h47 h50 h56 h59 hn hD hnc hnd hb nc 0 (by omega) (fun j h => by omega) _ _
