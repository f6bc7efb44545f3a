/-! Slowest gate, raising, too many taken: the given side. Own work. -/
set_option maxHeartbeats 8000000 in
theorem sl_loop {w : cx_W} {n : Nat} {gt : Nat → Prop} {pl : Nat → Nat} {s lt : Nat → Nat → Nat} {F : Nat → Nat} {fo oc : Nat} {d : Nat → Nat} {gs ch dr gm sr tg ct : Nat → Int32} {Q : cx_Q} {y0 y1 : Int32} {dd : Nat} (hW : RtW w n gt pl s lt F fo oc d gs ch dr gm sr tg ct) (h36 : w 36 = oRe y0 y1)
    (hQ : ∀ P : Nat, (∀ u, gt u → d u ≤ P) → ((∃ u, gt u) → ∃ u, gt u ∧ P = d u) → ((¬ ∃ u, gt u) → P = 0) → Q (some (.int (nI P))) w (87, 0, 0)) :
    ∀ (m i : Nat) (P : Nat), i + m = rt_cnt gt n → P ≤ 1000 → (∀ u, gt u → rt_cnt gt u < i → d u ≤ P) → (0 < i → ∃ u, gt u ∧ P = d u) → (i = 0 → P = 0) →
    cx_OK none mRe_slowestGate (dd + 3) 0 0 Q 4 [some (.ref 36), some (.int (nI P)), some (.int (nI i))] [] w (87, 0, 0) := by
  obtain ⟨⟨h1, hn, ⟨x13, h13⟩, h16, h20, h24, h28, h29, h30, h31, h32, h33⟩, hB, hG, hfo, hgd, hd, hcov, hcn, hout⟩ := hW
  have hcl := rt_cnt_le gt n
  intro m
  induction m with
  | zero =>
    intro i P hi hP hmx hat h0
    have E := leT (a := rt_cnt gt n) (b := i) (by omega) (by omega)
    refine cx_run 100 mRe_slowestGate_mo ?_
    simp (decide := true) only [BmRe_slowestGate, BSC, h36, h20, E, EV, EW, CT, ev_o, ev_is, ev_gd, List.length_cons, List.length_nil, Nat.reduceLT, Nat.reduceAdd, Nat.reduceEqDiff, Nat.reduceLeDiff, Int32.reduceLT, Int32.reduceLE, reduceIte, true_and, and_true, true_or, or_true, not_true_eq_false, not_false_eq_true, false_imp_iff, true_imp_iff, implies_true]
    refine hQ P (fun u hu => hmx u hu ?_) (fun ⟨u, hu⟩ => hat ?_) (fun hno => h0 ?_)
    · have := rt_cnt_up hu (hgd u hu).1; omega
    · have := rt_cnt_up hu (hgd u hu).1; omega
    · by_cases e : i = 0
      · exact e
      · have ⟨u, hu, _⟩ := hat (by omega); exact absurd ⟨u, hu⟩ hno
  | succ m ih =>
    intro i P hi hP hmx hat h0
    have E := leF (a := rt_cnt gt n) (b := i) (by omega) (by omega)
    have v1 : vp_in (nI i) 48 := nI_in (by omega) (by decide)
    obtain ⟨g, g1, g2, g3, g4⟩ := hG.at (show i < rt_cnt gt n by omega)
    have vg : vp_in (nI g) 48 := nI_in (by omega) (by decide)
    have ⟨_, c, c1, c2, c3⟩ := hgd g g2
    have vc : vp_in (nI c) 8 := nI_in c1 (by decide)
    have hdg := hd g
    refine cx_run 100 mRe_slowestGate_mo ?_
    simp (decide := true) only [BmRe_slowestGate, BSC, h36, h20, h29, h24, h13, h16, E, v1, vg, vc, g4, c2, c3, nI_clamp (n := i) (by omega), nI_clamp (n := g) (by omega), nI_clamp (n := c) (by omega), nI_1, EV, EW, CT, ev_o, ev_is, ev_gd, List.length_cons, List.length_nil, Nat.reduceLT, Nat.reduceAdd, Nat.reduceEqDiff, Nat.reduceLeDiff, Int32.reduceLT, Int32.reduceLE, reduceIte, true_and, and_true, true_or, or_true, not_true_eq_false, not_false_eq_true, false_imp_iff, true_imp_iff, implies_true]
    have em : (if nI P < nI (d g) then nI (d g) else nI P) = nI (if P < d g then d g else P) := by
      by_cases q : P < d g
      · rw [if_pos q, if_pos (nI_lt q (by omega))]
      · rw [if_neg q, if_neg (Int32.not_lt.mpr (nI_le (by omega) (by omega)))]
    rw [em]
    refine ih (i + 1) _ (by omega) (by split <;> omega) (fun u hu hlt => ?_) (fun _ => ?_) (fun h => by omega)
    · by_cases e : rt_cnt gt u = i
      · have := rt_cnt_inj hu g2 (e.trans g3.symm)
        subst this; split <;> omega
      · have := hmx u hu (by omega); split <;> omega
    · by_cases q : P < d g
      · rw [if_pos q]; exact ⟨g, g2, rfl⟩
      · rw [if_neg q]
        by_cases e : i = 0
        · have := h0 e; exact ⟨g, g2, by omega⟩
        · exact hat (by omega)
set_option maxHeartbeats 8000000 in
theorem c_Re_slowestGate {w : cx_W} {n : Nat} {gt : Nat → Prop} {pl : Nat → Nat} {s lt : Nat → Nat → Nat} {F : Nat → Nat} {fo oc : Nat} {d : Nat → Nat} {gs ch dr gm sr tg ct : Nat → Int32} {y0 y1 : Int32} {dd : Nat} (hW : RtW w n gt pl s lt F fo oc d gs ch dr gm sr tg ct) (h36 : w 36 = oRe y0 y1) :
    cx_MC mRe_slowestGate (dd + 3) 0 0 [.ref 36] w 87 (fun r_ w1 => ∃ P : Nat, r_ = some (.int (nI P)) ∧ w1 = w ∧ (∀ u, gt u → d u ≤ P) ∧ ((∃ u, gt u) → ∃ u, gt u ∧ P = d u) ∧ ((¬ ∃ u, gt u) → P = 0)) := by
  refine cx_met 60 mRe_slowestGate_ok rfl ?_
  show cx_vc 60 none mRe_slowestGate (dd + 3) 0 0 _ _ 0 [some (.ref 36), none, none] [] w (87, 0, 0)
  simp only [BmRe_slowestGate, EV, EW, CT, ev_o, ev_is, ev_gd, List.length_cons, List.length_nil, Nat.reduceLT, Nat.reduceAdd, Nat.reduceEqDiff, Nat.reduceLeDiff, Int32.reduceLT, Int32.reduceLE, reduceIte, true_and, and_true, true_or, or_true, not_true_eq_false, not_false_eq_true, false_imp_iff, true_imp_iff, implies_true]
  exact sl_loop hW h36 (fun P a b c => ⟨P, rfl, rfl, a, b, c⟩) (rt_cnt gt n) 0 0 (by omega) (by omega) (fun u _ h => by omega) (fun h => by omega) (fun _ => rfl)
set_option maxHeartbeats 8000000 in
theorem ra_loop {w : cx_W} {n : Nat} {gt : Nat → Prop} {pl : Nat → Nat} {s lt : Nat → Nat → Nat} {F : Nat → Nat} {fo oc : Nat} {d r t : Nat → Nat} {gs ch dr gm sr tg ct tl : Nat → Int32} {Q : cx_Q} {y0 y1 : Int32} {W : Nat} {dd : Nat} (hW : RtW w n gt pl s lt F fo oc d gs ch dr gm sr tg ct) (h36 : w 36 = oRe y0 y1) (h39 : w 39 = ai 48 tl) (ht : ∀ u, gt u → tl u = nI (t u) ∧ t u ≤ 20000000) (hWb : W ≤ 20000000)
    (hQ : ∀ (w1 : cx_W) (tr : Nat → Int32) (r2 : Nat → Nat), w1 38 = ai 48 tr → (∀ j, j < 48 → tr j = nI (r2 j)) → (∀ u, gt u → r2 u = r u + if W < t u then 1 else 0) → (∀ u, ¬ gt u → r2 u = r u) → (∀ k, ¬ k = 38 → w1 k = w k) → Q none w1 (87, 0, 0)) :
    ∀ (m i : Nat) (w1 : cx_W) (tr : Nat → Int32) (r2 : Nat → Nat) (l3 : Option Value), i + m = rt_cnt gt n → w1 38 = ai 48 tr → (∀ j, j < 48 → tr j = nI (r2 j)) → (∀ u, gt u → rt_cnt gt u < i → r2 u = r u + if W < t u then 1 else 0) → (∀ u, (¬ gt u ∨ i ≤ rt_cnt gt u) → r2 u = r u) → (∀ k, ¬ k = 38 → w1 k = w k) →
    cx_OK none mRe_raise (dd + 2) 0 0 Q 2 [some (.ref 36), some (.int (nI W)), some (.int (nI i)), l3] [] w1 (87, 0, 0) := by
  obtain ⟨⟨h1, hn, ⟨x13, h13⟩, h16, h20, h24, h28, h29, h30, h31, h32, h33⟩, hB, hG, hfo, hgd, hd, hcov, hcn, hout⟩ := hW
  have hcl := rt_cnt_le gt n
  intro m
  induction m with
  | zero =>
    intro i w1 tr r2 l3 hi h38 htr hr hs hk
    have E := leT (a := rt_cnt gt n) (b := i) (by omega) (by omega)
    have k36 := (hk 36 (by decide)).trans h36
    have k20 := (hk 20 (by decide)).trans h20
    refine cx_run 100 mRe_raise_mo ?_
    simp (decide := true) only [BmRe_raise, BSC, k36, k20, E, EV, EW, CT, ev_o, ev_is, ev_gd, List.length_cons, List.length_nil, Nat.reduceLT, Nat.reduceAdd, Nat.reduceEqDiff, Nat.reduceLeDiff, Int32.reduceLT, Int32.reduceLE, reduceIte, true_and, and_true, true_or, or_true, not_true_eq_false, not_false_eq_true, false_imp_iff, true_imp_iff, implies_true]
    exact hQ w1 tr r2 h38 htr (fun u hu => hr u hu (by have := rt_cnt_up hu (hgd u hu).1; omega)) (fun u hu => hs u (.inl hu)) hk
  | succ m ih =>
    intro i w1 tr r2 l3 hi h38 htr hr hs hk
    have E := leF (a := rt_cnt gt n) (b := i) (by omega) (by omega)
    have k36 := (hk 36 (by decide)).trans h36
    have k20 := (hk 20 (by decide)).trans h20
    have k29 := (hk 29 (by decide)).trans h29
    have k39 := (hk 39 (by decide)).trans h39
    have v1 : vp_in (nI i) 48 := nI_in (by omega) (by decide)
    obtain ⟨g, g1, g2, g3, g4⟩ := hG.at (show i < rt_cnt gt n by omega)
    have vg : vp_in (nI g) 48 := nI_in (by omega) (by decide)
    have ⟨t1, t2⟩ := ht g g2
    have rg := htr g (by omega)
    have er := hs g (.inr (by omega))
    refine cx_run 100 mRe_raise_mo ?_
    by_cases q : W < t g
    · have U : (nI (t g) ≤ nI W) = False := leF q (by omega)
      simp (decide := true) only [BmRe_raise, BSC, k36, k20, k29, k39, h38, E, v1, vg, g4, t1, U, rg, nI_clamp (n := i) (by omega), nI_clamp (n := g) (by omega), nI_1, EV, EW, CT, ev_o, ev_is, ev_gd, List.length_cons, List.length_nil, Nat.reduceLT, Nat.reduceAdd, Nat.reduceEqDiff, Nat.reduceLeDiff, Int32.reduceLT, Int32.reduceLE, reduceIte, true_and, and_true, true_or, or_true, not_true_eq_false, not_false_eq_true, false_imp_iff, true_imp_iff, implies_true]
      refine ih (i + 1) _ (upd tr g (nI (r2 g + 1))) (fun u => if u = g then r2 g + 1 else r2 u) _ (by omega) (by simp only [cx_up, Nat.reduceEqDiff, reduceIte]) (fun j hj => ?_) (fun u hu hlt => ?_) (fun u hu => ?_) (fun k z => by rw [← hk k z]; simp (disch := omega) only [cx_up, if_neg])
      · by_cases e : j = g
        · subst e; simp only [if_true]; exact pk_us
        · simp only [e, if_false]; rw [pk_un e]; exact htr j hj
      · by_cases e : u = g
        · subst e; simp only [if_true, q]; omega
        · simp only [e, if_false]
          exact hr u hu (by
            by_cases e2 : rt_cnt gt u = i
            · exact absurd (rt_cnt_inj hu g2 (e2.trans g3.symm)) e
            · omega)
      · by_cases e : u = g
        · rw [e] at hu
          rcases hu with hu | hu
          · exact absurd g2 hu
          · omega
        · simp only [e, if_false]; exact hs u (hu.elim .inl fun z => .inr (by omega))
    · have U : (nI (t g) ≤ nI W) = True := leT (by omega) (by omega)
      simp (decide := true) only [BmRe_raise, BSC, k36, k20, k29, k39, E, v1, vg, g4, t1, U, nI_clamp (n := i) (by omega), nI_clamp (n := g) (by omega), nI_1, EV, EW, CT, ev_o, ev_is, ev_gd, List.length_cons, List.length_nil, Nat.reduceLT, Nat.reduceAdd, Nat.reduceEqDiff, Nat.reduceLeDiff, Int32.reduceLT, Int32.reduceLE, reduceIte, true_and, and_true, true_or, or_true, not_true_eq_false, not_false_eq_true, false_imp_iff, true_imp_iff, implies_true]
      refine ih (i + 1) w1 tr r2 _ (by omega) h38 htr (fun u hu hlt => ?_) (fun u hu => hs u (hu.elim .inl fun z => .inr (by omega))) hk
      by_cases e : u = g
      · subst e; rw [if_neg q]; omega
      · exact hr u hu (by
          by_cases e2 : rt_cnt gt u = i
          · exact absurd (rt_cnt_inj hu g2 (e2.trans g3.symm)) e
          · omega)
set_option maxHeartbeats 8000000 in
theorem c_Re_raise {w : cx_W} {n : Nat} {gt : Nat → Prop} {pl : Nat → Nat} {s lt : Nat → Nat → Nat} {F : Nat → Nat} {fo oc : Nat} {d r t : Nat → Nat} {gs ch dr gm sr tg ct tl tr0 : Nat → Int32} {y0 y1 : Int32} {W : Nat} {dd : Nat} (hW : RtW w n gt pl s lt F fo oc d gs ch dr gm sr tg ct) (h36 : w 36 = oRe y0 y1) (h38 : w 38 = ai 48 tr0) (htr0 : ∀ j, j < 48 → tr0 j = nI (r j)) (h39 : w 39 = ai 48 tl) (ht : ∀ u, gt u → tl u = nI (t u) ∧ t u ≤ 20000000) (hWb : W ≤ 20000000) :
    cx_MC mRe_raise (dd + 2) 0 0 [.ref 36, .int (nI W)] w 87 (fun r_ w1 => r_ = none ∧ ∃ (tr : Nat → Int32) (r2 : Nat → Nat), w1 38 = ai 48 tr ∧ (∀ j, j < 48 → tr j = nI (r2 j)) ∧ (∀ u, gt u → r2 u = r u + if W < t u then 1 else 0) ∧ (∀ u, ¬ gt u → r2 u = r u) ∧ (∀ k, ¬ k = 38 → w1 k = w k)) := by
  refine cx_met 60 mRe_raise_ok rfl ?_
  show cx_vc 60 none mRe_raise (dd + 2) 0 0 _ _ 0 [some (.ref 36), some (.int (nI W)), none, none] [] w (87, 0, 0)
  simp only [BmRe_raise, EV, EW, CT, ev_o, ev_is, ev_gd, List.length_cons, List.length_nil, Nat.reduceLT, Nat.reduceAdd, Nat.reduceEqDiff, Nat.reduceLeDiff, Int32.reduceLT, Int32.reduceLE, reduceIte, true_and, and_true, true_or, or_true, not_true_eq_false, not_false_eq_true, false_imp_iff, true_imp_iff, implies_true]
  exact ra_loop (w := w) (r := r) (t := t) hW h36 h39 ht hWb (fun w1 tr r2 a b c d e => ⟨rfl, tr, r2, a, b, c, d, e⟩) (rt_cnt gt n) 0 w tr0 r none (by omega) h38 htr0 (fun u _ h => by omega) (fun _ _ => rfl) (fun _ _ => rfl)
set_option maxHeartbeats 8000000 in
theorem tm_loop {w : cx_W} {n : Nat} {gt : Nat → Prop} {pl : Nat → Nat} {s lt : Nat → Nat → Nat} {F : Nat → Nat} {fo oc : Nat} {d r : Nat → Nat} {gs ch dr gm sr tg ct tr : Nat → Int32} {y0 y1 : Int32} {b : Bool} {dd : Nat} (hW : RtW w n gt pl s lt F fo oc d gs ch dr gm sr tg ct) (h36 : w 36 = oRe y0 y1) (h38 : w 38 = ai 48 tr) (htr : ∀ j, j < 48 → tr j = nI (r j) ∧ r j ≤ 200) (hb : b = true ↔ ∃ g p, gt g ∧ p < pl g ∧ lt g p + r (s g p) < r g) :
    ∀ (m e : Nat), e + m = fo + oc → (∀ g p, gt g → p < pl g → F g + p < e → ¬ lt g p + r (s g p) < r g) →
    cx_OK none mRe_hasTakenTooMany (dd + 2) 0 0 (fun r_ w2 _ => r_ = some (.int (if b = true then 1 else 0)) ∧ w2 = w) 2 [some (.ref 36), some (.int (nI e))] [] w (87, 0, 0) := by
  obtain ⟨⟨h1, hn, ⟨x13, h13⟩, h16, h20, h24, h28, h29, h30, h31, h32, h33⟩, hB, hG, hfo, hgd, hd, hcov, hcn, hout⟩ := hW
  intro m
  induction m with
  | zero =>
    intro e he hno
    have E := leT (a := fo + oc) (b := e) (by omega) (by omega)
    have eb : b = false := by
      cases q : b
      · rfl
      · have ⟨g, p, a1, a2, a3⟩ := hb.mp q
        exact absurd a3 (hno g p a1 a2 (by have := (hcn g p a1 a2).1; omega))
    refine cx_run 100 mRe_hasTakenTooMany_mo ?_
    simp (decide := true) only [BmRe_hasTakenTooMany, BSC, h36, h30, E, eb, Bool.false_eq_true, EV, EW, CT, ev_o, ev_is, ev_gd, List.length_cons, List.length_nil, Nat.reduceLT, Nat.reduceAdd, Nat.reduceEqDiff, Nat.reduceLeDiff, Int32.reduceLT, Int32.reduceLE, reduceIte, true_and, and_true, true_or, or_true, not_true_eq_false, not_false_eq_true, false_imp_iff, true_imp_iff, implies_true]
  | succ m ih =>
    intro e he hno
    have E := leF (a := fo + oc) (b := e) (by omega) (by omega)
    have v1 : vp_in (nI e) 196 := nI_in (by omega) (by decide)
    refine cx_run 100 mRe_hasTakenTooMany_mo ?_
    by_cases hef : e < fo
    · obtain ⟨g, p, hg, hp, rfl⟩ := hcov e hef
      obtain ⟨_, c1, c2, c3, c4, c5⟩ := hcn g p hg hp
      have ⟨hgn, _⟩ := hgd g hg
      have ne : (nI g = -1) = False := eq_false fun q => (nI_pos (n := g) (by omega)) (by rw [q]; decide)
      have vs : vp_in (nI (s g p)) 48 := nI_in c4 (by decide)
      have vg : vp_in (nI g) 48 := nI_in (by omega) (by decide)
      have ⟨r1, r2⟩ := htr (s g p) c4
      have ⟨r3, r4⟩ := htr g (by omega)
      by_cases q : lt g p + r (s g p) < r g
      · have eb : b = true := hb.mpr ⟨g, p, hg, hp, q⟩
        have Z : (nI (lt g p + r (s g p)) - nI (r g) < 0) = True := (subN (by omega) (by omega)).trans (eq_true q)
        have Z2 : (0 ≤ nI (lt g p + r (s g p)) - nI (r g)) = False := eq_false (Int32.not_le.mpr (of_eq_true Z))
        simp (decide := true) only [BmRe_hasTakenTooMany, BSC, h36, h30, h31, h32, h33, h38, E, v1, vs, vg, c1, c2, c3, ne, r1, r3, Z, Z2, eb, nI_add, nI_clamp (n := F g + p) (by omega), nI_clamp (n := s g p) (by omega), nI_clamp (n := g) (by omega), EV, EW, CT, ev_o, ev_is, ev_gd, List.length_cons, List.length_nil, Nat.reduceLT, Nat.reduceAdd, Nat.reduceEqDiff, Nat.reduceLeDiff, Int32.reduceLT, Int32.reduceLE, reduceIte, true_and, and_true, true_or, or_true, not_true_eq_false, not_false_eq_true, false_imp_iff, true_imp_iff, implies_true]
      · have Z : (nI (lt g p + r (s g p)) - nI (r g) < 0) = False := (subN (by omega) (by omega)).trans (eq_false q)
        have Z2 : (0 ≤ nI (lt g p + r (s g p)) - nI (r g)) = True := eq_true (Int32.not_lt.mp (of_eq_false Z))
        simp (decide := true) only [BmRe_hasTakenTooMany, BSC, h36, h30, h31, h32, h33, h38, E, v1, vs, vg, c1, c2, c3, ne, r1, r3, Z, Z2, nI_add, nI_clamp (n := F g + p) (by omega), nI_clamp (n := s g p) (by omega), nI_clamp (n := g) (by omega), nI_1, EV, EW, CT, ev_o, ev_is, ev_gd, List.length_cons, List.length_nil, Nat.reduceLT, Nat.reduceAdd, Nat.reduceEqDiff, Nat.reduceLeDiff, Int32.reduceLT, Int32.reduceLE, reduceIte, true_and, and_true, true_or, or_true, not_true_eq_false, not_false_eq_true, false_imp_iff, true_imp_iff, implies_true]
        refine ih (F g + p + 1) (by omega) (fun g' p' hg' hp' hlt hh => ?_)
        by_cases q2 : F g' + p' < F g + p
        · exact hno g' p' hg' hp' q2 hh
        · have e1 : F g' + p' = F g + p := by omega
          have h1 := (hcn g' p' hg' hp').2.1
          have h2 := (hcn g' p' hg' hp').2.2.1
          have h3 := (hcn g' p' hg' hp').2.2.2.1
          have h4 := (hcn g' p' hg' hp').2.2.2.2
          have hg3 := (hgd g' hg').1
          rw [e1, c1] at h1
          rw [e1, c2] at h2
          rw [e1, c3] at h3
          have eg : g = g' := (nI_eq (by omega) (by omega)).mp h2
          have es : s g p = s g' p' := (nI_eq (by omega) (by omega)).mp h1
          have el : lt g p = lt g' p' := (nI_eq (by omega) (by omega)).mp h3
          rw [← el, ← es, ← eg] at hh
          exact q hh
    · obtain ⟨o, ho⟩ : ∃ o, e = fo + o := ⟨e - fo, by omega⟩
      subst ho
      obtain ⟨o1, x, c, o2, o3, o4, o5⟩ := hout o (by omega)
      have vx : vp_in (nI x) 48 := nI_in o3 (by decide)
      have ⟨r1, r2⟩ := htr x o3
      have Z2 : (0 ≤ nI (c + r x)) = True := eq_true (nI_pos' (by omega))
      simp (decide := true) only [BmRe_hasTakenTooMany, BSC, h36, h30, h31, h32, h33, h38, E, v1, vx, o1, o2, o4, r1, Z2, subZ, nI_add, nI_clamp (n := fo + o) (by omega), nI_clamp (n := x) (by omega), nI_1, EV, EW, CT, ev_o, ev_is, ev_gd, List.length_cons, List.length_nil, Nat.reduceLT, Nat.reduceAdd, Nat.reduceEqDiff, Nat.reduceLeDiff, Int32.reduceLT, Int32.reduceLE, reduceIte, true_and, and_true, true_or, or_true, not_true_eq_false, not_false_eq_true, false_imp_iff, true_imp_iff, implies_true]
      exact ih (fo + o + 1) (by omega) (fun g p hg hp hlt => hno g p hg hp (by have := (hcn g p hg hp).1; omega))
set_option maxHeartbeats 8000000 in
theorem c_Re_taken {w : cx_W} {n : Nat} {gt : Nat → Prop} {pl : Nat → Nat} {s lt : Nat → Nat → Nat} {F : Nat → Nat} {fo oc : Nat} {d r : Nat → Nat} {gs ch dr gm sr tg ct tr : Nat → Int32} {y0 y1 : Int32} {b : Bool} {dd : Nat} (hW : RtW w n gt pl s lt F fo oc d gs ch dr gm sr tg ct) (h36 : w 36 = oRe y0 y1) (h38 : w 38 = ai 48 tr) (htr : ∀ j, j < 48 → tr j = nI (r j) ∧ r j ≤ 200) (hb : b = true ↔ ∃ g p, gt g ∧ p < pl g ∧ lt g p + r (s g p) < r g) :
    cx_MC mRe_hasTakenTooMany (dd + 2) 0 0 [.ref 36] w 87 (fun r_ w2 => r_ = some (.int (if b = true then 1 else 0)) ∧ w2 = w) := by
  refine cx_met 60 mRe_hasTakenTooMany_ok rfl ?_
  show cx_vc 60 none mRe_hasTakenTooMany (dd + 2) 0 0 _ _ 0 [some (.ref 36), none] [] w (87, 0, 0)
  simp only [BmRe_hasTakenTooMany, EV, EW, CT, ev_o, ev_is, ev_gd, List.length_cons, List.length_nil, Nat.reduceLT, Nat.reduceAdd, Nat.reduceEqDiff, Nat.reduceLeDiff, Int32.reduceLT, Int32.reduceLE, reduceIte, true_and, and_true, true_or, or_true, not_true_eq_false, not_false_eq_true, false_imp_iff, true_imp_iff, implies_true]
  exact tm_loop hW h36 h38 htr hb (fo + oc) 0 (by omega) (fun g p _ _ h => by omega)
