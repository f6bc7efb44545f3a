/-! The gates' graph in the rows of the given side; tails. Own work. -/
def EE (gt : Nat → Prop) (pl : Nat → Nat) (s lt : Nat → Nat → Nat) (u v w : Nat) : Prop := gt v ∧ ∃ p, p < pl v ∧ s v p = u ∧ gt u ∧ lt v p = w
def II (gt : Nat → Prop) (pl : Nat → Nat) (s lt : Nat → Nat → Nat) (v w : Nat) : Prop := gt v ∧ ∃ p, p < pl v ∧ ¬ gt (s v p) ∧ lt v p = w
/-- the gates' graph as it lies in the rows -/
def RtW (w : cx_W) (n : Nat) (gt : Nat → Prop) (pl : Nat → Nat) (s lt : Nat → Nat → Nat) (F : Nat → Nat) (fo oc : Nat) (d : Nat → Nat) (gs ch dr gm sr tg ct : Nat → Int32) : Prop :=
  (w 1 = oGr (nI n) ∧ n ≤ 48 ∧ (∃ x, w 13 = oLi x) ∧ w 16 = ai 8 dr ∧ w 20 = oCo (nI (rt_cnt gt n)) ∧ w 24 = ai 48 ch ∧ w 28 = az 48 gm ∧ w 29 = ai 48 gs ∧ w 30 = oCn (nI fo) (nI (fo + oc)) ∧ w 31 = ai 196 sr ∧ w 32 = ai 196 tg ∧ w 33 = ai 196 ct) ∧
  BR 48 gm gt ∧ GtR gs gt n ∧ fo + oc ≤ 196 ∧ (∀ g, gt g → g < n ∧ ∃ c, c < 8 ∧ ch g = nI c ∧ dr c = nI (d g)) ∧ (∀ u, d u ≤ 1000) ∧
  (∀ e, e < fo → ∃ g p, gt g ∧ p < pl g ∧ e = F g + p) ∧ (∀ g p, gt g → p < pl g → F g + p < fo ∧ sr (F g + p) = nI (s g p) ∧ tg (F g + p) = nI g ∧ ct (F g + p) = nI (lt g p) ∧ s g p < 48 ∧ lt g p ≤ 6) ∧
  ∀ o, o < oc → tg (fo + o) = -1 ∧ ∃ x c : Nat, sr (fo + o) = nI x ∧ x < 48 ∧ ct (fo + o) = nI c ∧ c ≤ 6
theorem RtW.of {w w1 : cx_W} {n : Nat} {gt : Nat → Prop} {pl : Nat → Nat} {s lt : Nat → Nat → Nat} {F : Nat → Nat} {fo oc : Nat} {d : Nat → Nat} {gs ch dr gm sr tg ct : Nat → Int32} (h : RtW w n gt pl s lt F fo oc d gs ch dr gm sr tg ct) (hk : ∀ k, k < 34 → w1 k = w k) : RtW w1 n gt pl s lt F fo oc d gs ch dr gm sr tg ct := by
  obtain ⟨⟨h1, hn, ⟨x, h13⟩, h16, h20, h24, h28, h29, h30, h31, h32, h33⟩, r⟩ := h
  exact ⟨⟨(hk 1 (by omega)).trans h1, hn, ⟨x, (hk 13 (by omega)).trans h13⟩, (hk 16 (by omega)).trans h16, (hk 20 (by omega)).trans h20, (hk 24 (by omega)).trans h24, (hk 28 (by omega)).trans h28, (hk 29 (by omega)).trans h29, (hk 30 (by omega)).trans h30, (hk 31 (by omega)).trans h31, (hk 32 (by omega)).trans h32, (hk 33 (by omega)).trans h33⟩, r⟩
theorem sub0 {a b : Nat} (ha : a < 2 ^ 30) (hb : b < 2 ^ 30) : (nI a - nI b = 0) = (a = b) := by
  apply propext
  have h := pk_sub_toInt ha hb
  constructor
  · intro e
    rw [e] at h
    have : (0 : Int32).toInt = 0 := rfl
    omega
  · intro e
    apply Int32.toInt_inj.mp
    rw [h]
    show _ = (0 : Int)
    omega
theorem subN {a b : Nat} (ha : a < 2 ^ 30) (hb : b < 2 ^ 30) : (nI a - nI b < 0) = (a < b) := by
  apply propext
  rw [Int32.lt_iff_toInt_lt, pk_sub_toInt ha hb]
  show (a : Int) - b < 0 ↔ _
  omega
theorem subZ (x : Int32) : x - 0 = x := by
  apply Int32.toInt_inj.mp
  have : x - 0 = x := by rw [Int32.sub_eq_add_neg]; simp
  rw [this]
/-- one round over the connections -/
def GtI (gt : Nat → Prop) (pl : Nat → Nat) (s lt : Nat → Nat → Nat) (F : Nat → Nat) (d r : Nat → Nat) (t t2 : Nat → Nat) (e : Nat) (gw : Prop) : Prop :=
  (∀ u, gt u → t u ≤ t2 u) ∧ (∀ g p, gt g → p < pl g → F g + p < e → gt (s g p) → lt g p + r (s g p) = r g → d (s g p) + t g ≤ t2 (s g p)) ∧ (¬ gw → ∀ u, gt u → t2 u = t u)
set_option maxHeartbeats 16000000 in
theorem gt_loop {w : cx_W} {n : Nat} {gt : Nat → Prop} {pl : Nat → Nat} {s lt : Nat → Nat → Nat} {F : Nat → Nat} {fo oc : Nat} {d r t : Nat → Nat} {gs ch dr gm sr tg ct tr : Nat → Int32} {T : Nat → Int} {dd : Nat} {Q : cx_Q} {y0 y1 : Int32} (hW : RtW w n gt pl s lt F fo oc d gs ch dr gm sr tg ct) (h36 : w 36 = oRe y0 y1) (h38 : w 38 = ai 48 tr) (htr : ∀ j, j < 48 → tr j = nI (r j) ∧ r j ≤ 200) (hT : ∀ g p, gt g → p < pl g → gt (s g p) → lt g p + r (s g p) = r g → ((d (s g p) : Nat) : Int) + T g ≤ T (s g p)) (hTb : ∀ u, gt u → T u ≤ 20000000)
    (hQ : ∀ (w1 : cx_W) (tl : Nat → Int32) (t2 : Nat → Nat) (gw : Int32), w1 39 = ai 48 tl → (∀ u, gt u → tl u = nI (t2 u) ∧ (t2 u : Int) ≤ T u) → (gw = 0 ∨ gw = 1) → (∀ k, ¬ k = 39 → w1 k = w k) → GtI gt pl s lt F d r t t2 fo (gw = 1) → Q (some (.int gw)) w1 (87, 0, 0)) :
    ∀ (m e : Nat) (w1 : cx_W) (tl : Nat → Int32) (t2 : Nat → Nat) (gw : Int32) (l3 l4 l5 : Option Value), e + m = fo + oc → w1 39 = ai 48 tl → (∀ u, gt u → tl u = nI (t2 u) ∧ (t2 u : Int) ≤ T u) → (gw = 0 ∨ gw = 1) → (∀ k, ¬ k = 39 → w1 k = w k) → GtI gt pl s lt F d r t t2 (min e fo) (gw = 1) →
    cx_OK none mRe_growTails (dd + 2) 0 0 Q 4 [some (.ref 36), some (.int gw), some (.int (nI e)), l3, l4, l5] [] w1 (87, 0, 0) := by
  obtain ⟨⟨h1, hn, ⟨x13, h13⟩, h16, h20, h24, h28, h29, h30, h31, h32, h33⟩, hB, hG, hfo, hgd, hd, hcov, hcn, hout⟩ := hW
  intro m
  induction m with
  | zero =>
    intro e w1 tl t2 gw l3 l4 l5 he h39 ht hgw hk hI
    have E := leT (a := fo + oc) (b := e) (by omega) (by omega)
    have k36 := (hk 36 (by decide)).trans h36
    have k30 := (hk 30 (by decide)).trans h30
    rw [Nat.min_eq_right (by omega)] at hI
    refine cx_run 100 mRe_growTails_mo ?_
    simp (decide := true) only [BmRe_growTails, BSC, k36, k30, E, EV, EW, CT, ev_o, ev_is, ev_gd, List.length_cons, List.length_nil, Nat.reduceLT, Nat.reduceAdd, Nat.reduceEqDiff, Nat.reduceLeDiff, Int32.reduceLT, Int32.reduceLE, reduceIte, true_and, and_true, true_or, or_true, not_true_eq_false, not_false_eq_true, false_imp_iff, true_imp_iff, implies_true]
    exact ⟨hgw, hQ w1 tl t2 gw h39 ht hgw hk hI⟩
  | succ m ih =>
    intro e w1 tl t2 gw l3 l4 l5 he h39 ht hgw hk hI
    have E := leF (a := fo + oc) (b := e) (by omega) (by omega)
    have k36 := (hk 36 (by decide)).trans h36
    have k30 := (hk 30 (by decide)).trans h30
    have k31 := (hk 31 (by decide)).trans h31
    have k32 := (hk 32 (by decide)).trans h32
    have k33 := (hk 33 (by decide)).trans h33
    have k38 := (hk 38 (by decide)).trans h38
    have k20 := (hk 20 (by decide)).trans h20
    have k28 := (hk 28 (by decide)).trans h28
    have k24 := (hk 24 (by decide)).trans h24
    have k13 := (hk 13 (by decide)).trans h13
    have k16 := (hk 16 (by decide)).trans h16
    have k1 := (hk 1 (by decide)).trans h1
    have v1 : vp_in (nI e) 196 := nI_in (by omega) (by decide)
    refine cx_run 100 mRe_growTails_mo ?_
    by_cases hef : e < fo
    · obtain ⟨g, p, hg, hp, rfl⟩ := hcov e hef
      obtain ⟨_, c1, c2, c3, c4, c5⟩ := hcn g p hg hp
      have ⟨hgn, cg, cg1, cg2, cg3⟩ := hgd g hg
      have ne : (nI g = -1) = False := eq_false fun q => (nI_pos (n := g) (by omega)) (by rw [q]; decide)
      have vs : vp_in (nI (s g p)) 48 := nI_in c4 (by decide)
      have vg : vp_in (nI g) 48 := nI_in (by omega) (by decide)
      have ps : (nI (s g p) < 0) = False := eq_false (nI_pos (by omega))
      have next : ∀ (t3 : Nat → Nat), (∀ u, gt u → t2 u ≤ t3 u) → (gt (s g p) → lt g p + r (s g p) = r g → d (s g p) + t g ≤ t3 (s g p)) → ∀ gw3 : Int32, (¬ gw3 = 1 → (¬ gw = 1) ∧ ∀ u, gt u → t3 u = t2 u) → GtI gt pl s lt F d r t t3 (min (F g + p + 1) fo) (gw3 = 1) := by
        intro t3 a b gw3 c
        refine ⟨fun u hu => Nat.le_trans (hI.1 u hu) (a u hu), fun g' p' hg' hp' hlt hgs hz => ?_, fun hw u hu => ?_⟩
        · by_cases q : F g' + p' < min (F g + p) fo
          · exact Nat.le_trans (hI.2.1 g' p' hg' hp' q hgs hz) (a _ hgs)
          · have e1 : F g' + p' = F g + p := by omega
            have h1 := (hcn g' p' hg' hp').2.1
            have h2 := (hcn g' p' hg' hp').2.2.1
            have h3 := (hcn g' p' hg' hp').2.2.2.1
            rw [e1, c1] at h1
            rw [e1, c2] at h2
            rw [e1, c3] at h3
            have hg3 := (hgd g' hg').1
            have h4 := (hcn g' p' hg' hp').2.2.2.2
            have eg : g = g' := (nI_eq (by omega) (by omega)).mp h2
            have es : s g p = s g' p' := (nI_eq (by omega) (by omega)).mp h1
            have el : lt g p = lt g' p' := (nI_eq (by omega) (by omega)).mp h3
            rw [← es, ← eg]
            rw [← es] at hgs
            rw [← el, ← es, ← eg] at hz
            exact b hgs hz
        · have ⟨c1, c2⟩ := c hw
          rw [c2 u hu]; exact hI.2.2 c1 u hu
      by_cases hgs : gt (s g p)
      · have ⟨hsn, cs, cs1, cs2, cs3⟩ := hgd (s g p) hgs
        have EG := leF (a := n) (b := s g p) hsn (by omega)
        have LG := ltT (a := s g p) (b := n) hsn (by omega)
        have FM : gm (s g p) = 1 := (hB _ (by omega)).1 hgs
        have ⟨r1, r2⟩ := htr (s g p) c4
        have ⟨r3, r4⟩ := htr g (by omega)
        have vcs : vp_in (nI cs) 8 := nI_in cs1 (by decide)
        by_cases hz : lt g p + r (s g p) = r g
        · have Z : (nI (lt g p + r (s g p)) - nI (r g) = 0) = True := (sub0 (by omega) (by omega)).trans (eq_true hz)
          have ⟨tg1, tg2⟩ := ht g hg
          have ⟨ts1, ts2⟩ := ht (s g p) hgs
          have hTT := hT g p hg hp hgs hz
          have hTs := hTb (s g p) hgs
          have hds := hd (s g p)
          by_cases up : t2 (s g p) < d (s g p) + t2 g
          · have U : (nI (d (s g p) + t2 g) ≤ nI (t2 (s g p))) = False := leF up (by omega)
            have U2 : (nI (t2 (s g p)) < nI (d (s g p) + t2 g)) = True := ltT up (by omega)
            simp (decide := true) only [BmRe_growTails, BSC, k36, k30, k31, k32, k33, k38, k20, k28, k24, k13, k16, k1, h39, E, v1, c1, c2, c3, ne, vs, vg, ps, EG, LG, FM, r1, r3, Z, vcs, cs2, cs3, tg1, ts1, U, U2, nI_add, nI_clamp (n := F g + p) (by omega), nI_clamp (n := s g p) (by omega), nI_clamp (n := g) (by omega), nI_clamp (n := cs) (by omega), nI_1, EV, EW, CT, ev_o, ev_is, ev_gd, List.length_cons, List.length_nil, Nat.reduceLT, Nat.reduceAdd, Nat.reduceEqDiff, Nat.reduceLeDiff, Int32.reduceLT, Int32.reduceLE, reduceIte, true_and, and_true, true_or, or_true, not_true_eq_false, not_false_eq_true, false_imp_iff, true_imp_iff, implies_true]
            refine ih (F g + p + 1) _ (upd tl (s g p) (nI (d (s g p) + t2 g))) (fun u => if u = s g p then d (s g p) + t2 g else t2 u) 1 _ _ _ (by omega) (by simp only [cx_up, Nat.reduceEqDiff, reduceIte]) (fun u hu => ?_) (.inr rfl) (fun k z => by rw [← hk k z]; simp (disch := omega) only [cx_up, if_neg]) (next _ (fun u hu => ?_) (fun _ _ => ?_) 1 (fun z => absurd rfl z))
            · by_cases q : u = s g p
              · subst q; simp only [if_true]; exact ⟨pk_us, by omega⟩
              · simp only [q, if_false]; rw [pk_un q]; exact ht u hu
            · by_cases q : u = s g p
              · subst q; simp only [if_true]; omega
              · simp only [q, if_false]; exact Nat.le_refl _
            · simp only [if_true]; have := hI.1 g hg; omega
          · have U : (nI (d (s g p) + t2 g) ≤ nI (t2 (s g p))) = True := leT (by omega) (by omega)
            have U2 : (nI (t2 (s g p)) < nI (d (s g p) + t2 g)) = False := ltF (by omega) (by omega)
            simp (decide := true) only [BmRe_growTails, BSC, k36, k30, k31, k32, k33, k38, k20, k28, k24, k13, k16, k1, h39, E, v1, c1, c2, c3, ne, vs, vg, ps, EG, LG, FM, r1, r3, Z, vcs, cs2, cs3, tg1, ts1, U, U2, nI_add, nI_clamp (n := F g + p) (by omega), nI_clamp (n := s g p) (by omega), nI_clamp (n := g) (by omega), nI_clamp (n := cs) (by omega), nI_1, EV, EW, CT, ev_o, ev_is, ev_gd, List.length_cons, List.length_nil, Nat.reduceLT, Nat.reduceAdd, Nat.reduceEqDiff, Nat.reduceLeDiff, Int32.reduceLT, Int32.reduceLE, reduceIte, true_and, and_true, true_or, or_true, not_true_eq_false, not_false_eq_true, false_imp_iff, true_imp_iff, implies_true]
            exact ih (F g + p + 1) w1 tl t2 gw _ _ _ (by omega) h39 ht hgw hk (next t2 (fun _ _ => Nat.le_refl _) (fun _ _ => by have := hI.1 g hg; omega) gw (fun z => ⟨z, fun _ _ => rfl⟩))
        · have Z : (nI (lt g p + r (s g p)) - nI (r g) = 0) = False := (sub0 (by omega) (by omega)).trans (eq_false hz)
          simp (decide := true) only [BmRe_growTails, BSC, k36, k30, k31, k32, k33, k38, k20, k28, k1, E, v1, c1, c2, c3, ne, vs, vg, ps, EG, LG, FM, r1, r3, Z, nI_add, nI_clamp (n := F g + p) (by omega), nI_clamp (n := s g p) (by omega), nI_clamp (n := g) (by omega), nI_1, EV, EW, CT, ev_o, ev_is, ev_gd, List.length_cons, List.length_nil, Nat.reduceLT, Nat.reduceAdd, Nat.reduceEqDiff, Nat.reduceLeDiff, Int32.reduceLT, Int32.reduceLE, reduceIte, true_and, and_true, true_or, or_true, not_true_eq_false, not_false_eq_true, false_imp_iff, true_imp_iff, implies_true]
          exact ih (F g + p + 1) w1 tl t2 gw _ _ _ (by omega) h39 ht hgw hk (next t2 (fun _ _ => Nat.le_refl _) (fun _ z => absurd z hz) gw (fun z => ⟨z, fun _ _ => rfl⟩))
      · have nx : ∀ l3 l4 l5, cx_OK none mRe_growTails (dd + 2) 0 0 Q 4 [some (.ref 36), some (.int gw), some (.int (nI (F g + p + 1))), l3, l4, l5] [] w1 (87, 0, 0) := fun l3 l4 l5 => ih (F g + p + 1) w1 tl t2 gw l3 l4 l5 (by omega) h39 ht hgw hk (next t2 (fun _ _ => Nat.le_refl _) (fun z => absurd z hgs) gw (fun z => ⟨z, fun _ _ => rfl⟩))
        have FM : gm (s g p) = 0 := (hB _ (by omega)).2 hgs
        by_cases hsn : s g p < n
        · have EG := leF (a := n) (b := s g p) hsn (by omega)
          have LG := ltT (a := s g p) (b := n) hsn (by omega)
          simp (decide := true) only [BmRe_growTails, BSC, k36, k30, k31, k32, k20, k28, k1, E, v1, c1, c2, ne, vs, ps, EG, LG, FM, nI_clamp (n := F g + p) (by omega), nI_clamp (n := s g p) (by omega), nI_1, EV, EW, CT, ev_o, ev_is, ev_gd, List.length_cons, List.length_nil, Nat.reduceLT, Nat.reduceAdd, Nat.reduceEqDiff, Nat.reduceLeDiff, Int32.reduceLT, Int32.reduceLE, reduceIte, true_and, and_true, true_or, or_true, not_true_eq_false, not_false_eq_true, false_imp_iff, true_imp_iff, implies_true]
          exact nx _ _ _
        · have EG := leT (a := n) (b := s g p) (by omega) (by omega)
          have LG := ltF (a := s g p) (b := n) (by omega) (by omega)
          simp (decide := true) only [BmRe_growTails, BSC, k36, k30, k31, k32, k20, k28, k1, E, v1, c1, c2, ne, vs, ps, EG, LG, FM, nI_clamp (n := F g + p) (by omega), nI_clamp (n := s g p) (by omega), nI_1, EV, EW, CT, ev_o, ev_is, ev_gd, List.length_cons, List.length_nil, Nat.reduceLT, Nat.reduceAdd, Nat.reduceEqDiff, Nat.reduceLeDiff, Int32.reduceLT, Int32.reduceLE, reduceIte, true_and, and_true, true_or, or_true, not_true_eq_false, not_false_eq_true, false_imp_iff, true_imp_iff, implies_true]
          exact nx _ _ _
    · obtain ⟨o, ho⟩ : ∃ o, e = fo + o := ⟨e - fo, by omega⟩
      subst ho
      obtain ⟨o1, x, c, o2, o3, o4, o5⟩ := hout o (by omega)
      have hI2 : GtI gt pl s lt F d r t t2 (min (fo + o + 1) fo) (gw = 1) := by
        rw [Nat.min_eq_right (by omega)] at hI ⊢; exact hI
      simp (decide := true) only [BmRe_growTails, BSC, k36, k30, k31, k32, E, v1, o1, o2, nI_clamp (n := fo + o) (by omega), nI_1, EV, EW, CT, ev_o, ev_is, ev_gd, List.length_cons, List.length_nil, Nat.reduceLT, Nat.reduceAdd, Nat.reduceEqDiff, Nat.reduceLeDiff, Int32.reduceLT, Int32.reduceLE, reduceIte, true_and, and_true, true_or, or_true, not_true_eq_false, not_false_eq_true, false_imp_iff, true_imp_iff, implies_true]
      exact ih (fo + o + 1) w1 tl t2 gw _ _ _ (by omega) h39 ht hgw hk hI2
set_option maxHeartbeats 8000000 in
theorem c_Re_growTails {w : cx_W} {n : Nat} {gt : Nat → Prop} {pl : Nat → Nat} {s lt : Nat → Nat → Nat} {F : Nat → Nat} {fo oc : Nat} {d r t : Nat → Nat} {gs ch dr gm sr tg ct tr tl : Nat → Int32} {T : Nat → Int} {dd : Nat} {y0 y1 : Int32} (hW : RtW w n gt pl s lt F fo oc d gs ch dr gm sr tg ct) (h36 : w 36 = oRe y0 y1) (h38 : w 38 = ai 48 tr) (htr : ∀ j, j < 48 → tr j = nI (r j) ∧ r j ≤ 200) (hT : ∀ g p, gt g → p < pl g → gt (s g p) → lt g p + r (s g p) = r g → ((d (s g p) : Nat) : Int) + T g ≤ T (s g p)) (hTb : ∀ u, gt u → T u ≤ 20000000) (h39 : w 39 = ai 48 tl) (ht : ∀ u, gt u → tl u = nI (t u) ∧ (t u : Int) ≤ T u) :
    cx_MC mRe_growTails (dd + 2) 0 0 [.ref 36] w 87 (fun r_ w1 => ∃ (tl : Nat → Int32) (t2 : Nat → Nat) (gw : Int32), r_ = some (.int gw) ∧ w1 39 = ai 48 tl ∧ (∀ u, gt u → tl u = nI (t2 u) ∧ (t2 u : Int) ≤ T u) ∧ (gw = 0 ∨ gw = 1) ∧ (∀ k, ¬ k = 39 → w1 k = w k) ∧ GtI gt pl s lt F d r t t2 fo (gw = 1)) := by
  refine cx_met 60 mRe_growTails_ok rfl ?_
  show cx_vc 60 none mRe_growTails (dd + 2) 0 0 _ _ 0 [some (.ref 36), none, none, none, none, none] [] w (87, 0, 0)
  simp only [BmRe_growTails, EV, EW, CT, ev_o, ev_is, ev_gd, List.length_cons, List.length_nil, Nat.reduceLT, Nat.reduceAdd, Nat.reduceEqDiff, Nat.reduceLeDiff, Int32.reduceLT, Int32.reduceLE, reduceIte, true_and, and_true, true_or, or_true, not_true_eq_false, not_false_eq_true, false_imp_iff, true_imp_iff, implies_true]
  exact gt_loop (w := w) hW h36 h38 htr hT hTb (fun w1 tl t2 gw a b c d e => ⟨tl, t2, gw, rfl, a, b, c, d, e⟩) (fo + oc) 0 w tl t 0 none none none (by omega) h39 ht (.inl rfl) (fun _ _ => rfl) ⟨fun _ _ => Nat.le_refl _, fun g p _ _ h => by omega, fun _ _ _ => rfl⟩
