/-! Moving the latches: the reference's side. Own work. -/
/-- one round of giving -/
def RdI (gt : Nat → Prop) (pl : Nat → Nat) (s lt : Nat → Nat → Nat) (n : Nat) (r m0 m : Nat → Nat) (mo : Int32) (i : Nat) : Prop :=
  (∀ u, m0 u ≤ m u) ∧ ((mo = 0 ∧ (∀ u, m u = m0 u) ∧ ∀ g, gt g → g < i → m g = r g ∨ ¬ ∀ p, p < pl g → tdP gt s lt m g (m g) p) ∨
    (mo = 1 ∧ rt_sum gt (fun u => (m0 u : Int)) n < rt_sum gt (fun u => (m u : Int)) n))
theorem RdI_skip {gt : Nat → Prop} {pl : Nat → Nat} {s lt : Nat → Nat → Nat} {n : Nat} {r m0 m : Nat → Nat} {mo : Int32} {i : Nat} (h : RdI gt pl s lt n r m0 m mo i) (hg : ¬ gt i) : RdI gt pl s lt n r m0 m mo (i + 1) := by
  refine ⟨h.1, h.2.imp (fun ⟨a, b, c⟩ => ⟨a, b, fun g gg hi => ?_⟩) id⟩
  by_cases e : g = i
  · exact absurd (e ▸ gg) hg
  · exact c g gg (by omega)
theorem RdI_give {gt : Nat → Prop} {pl : Nat → Nat} {s lt : Nat → Nat → Nat} {n : Nat} {r m0 m m2 : Nat → Nat} {mo sm : Int32} {i : Nat} (h : RdI gt pl s lt n r m0 m mo i) (hg : gt i) (hi : i < n) (ha : GvA gt pl s lt r m m2 i sm) : RdI gt pl s lt n r m0 m2 (if sm = 1 then 1 else mo) (i + 1) := by
  obtain ⟨a1, a2, a3⟩ := ha
  rcases a2 with ⟨e, z⟩ | ⟨e, z⟩
  · have em : m2 = m := funext fun u => by
      by_cases q : u = i
      · rw [q]; exact z
      · exact a1 u q
    subst em
    rw [e, if_neg (by decide)]
    refine ⟨h.1, h.2.imp (fun ⟨b1, b2, b3⟩ => ⟨b1, b2, fun g gg hi => ?_⟩) id⟩
    by_cases q : g = i
    · rw [q]; exact a3
    · exact b3 g gg (by omega)
  · rw [e, if_pos rfl]
    have mono : ∀ u, m u ≤ m2 u := fun u => by
      by_cases q : u = i
      · rw [q]; omega
      · rw [a1 u q]; exact Nat.le_refl _
    refine ⟨fun u => Nat.le_trans (h.1 u) (mono u), .inr ⟨rfl, ?_⟩⟩
    have h1 : rt_sum gt (fun u => (m0 u : Int)) n ≤ rt_sum gt (fun u => (m u : Int)) n := rt_sum_mono fun u _ => by have := h.1 u; omega
    have h2 : rt_sum gt (fun u => (m u : Int)) n < rt_sum gt (fun u => (m2 u : Int)) n := rt_sum_lt (fun u _ => by have := mono u; omega) hi hg (by omega)
    omega
/-- the state while giving -/
def GvS (w w1 : cx_W) (gt : Nat → Prop) (gv : Nat → Nat → Bool) (r m : Nat → Nat) : Prop :=
  ∃ ga gi op : Nat → Int32, w1 82 = ai 2304 ga ∧ w1 83 = ai 48 gi ∧ w1 86 = ai 8 op ∧ (∀ k, frG k → w1 k = w k) ∧ MvR gi m ∧ GvI gt gv r m ga
set_option maxHeartbeats 16000000 in
theorem mrt_in {w : cx_W} {n : Nat} {gt : Nat → Prop} {q pl d : Nat → Nat} {s lt st : Nat → Nat → Nat} {oc : Nat} {os ol ob : Nat → Nat} {pa dl ch gr so la_ mr : Nat → Int32} {sr : Nat → Int64} {x0 x1 x2 x4 x5 x6 x7 x8 x9 : Int32} {r m0 : Nat → Nat} {cv : Nat → Nat → Bool} {Q : cx_Q} (hW : RmW w n gt q pl d s lt st oc os ol ob pa dl ch gr so la_ sr) (h45 : w 45 = oM x0 x1 x2 (nI n) x4 x5 x6 x7 x8 x9) (h81 : w 81 = ai 48 mr) (hmr : MvR mr r) (hr : ∀ u, r u ≤ 47) (hcv : ∀ g, gt g → ∀ b, b < 2 ^ pl g → wkP (q g) b = (cv g b).toNat) (hz : ∀ g p, gt g → p < pl g → lt g p = 0 → s g p < g)
    (hQ : ∀ (w2 : cx_W) (m : Nat → Nat) (mo : Int32) (l2 l3 l4 l5 : Option Value), GvS w w2 gt (rt_gv pl s lt st cv) r m → RdI gt pl s lt n r m0 m mo n → cx_OK none mM_retime 10 0 0 Q 23 [some (.ref 45), some (.int mo), l2, l3, l4, l5] [] w2 (87, 0, 0)) :
    ∀ (k i : Nat) (w1 : cx_W) (m : Nat → Nat) (mo : Int32) (l3 l4 l5 : Option Value), i + k = n → GvS w w1 gt (rt_gv pl s lt st cv) r m → RdI gt pl s lt n r m0 m mo i →
    cx_OK none mM_retime 10 0 0 Q 31 [some (.ref 45), some (.int mo), some (.int (nI i)), l3, l4, l5] [] w1 (87, 0, 0) := by
  have hn := hW.1.1
  have hB := hW.2.1
  have h70 := hW.1.2.2.2.2.2.1
  intro k
  induction k with
  | zero =>
    intro i w1 m mo l3 l4 l5 hi hS hI
    have e : i = n := by omega
    subst e
    have E := leT (a := i) (b := i) (by omega) (by omega)
    have hS' := hS
    obtain ⟨ga, gi, op, h82, h83, h86, hk, hm, hG⟩ := hS'
    have k45 := (hk 45 (by decide)).trans h45
    refine cx_run 100 mM_retime_mo ?_
    simp (decide := true) only [BmM_retime, k45, E, EV, EW, CT, ev_o, ev_is, ev_gd, List.length_cons, List.length_nil, Nat.reduceLT, Nat.reduceAdd, Nat.reduceEqDiff, Nat.reduceLeDiff, Int32.reduceLT, Int32.reduceLE, reduceIte, true_and, and_true, true_or, or_true, not_true_eq_false, not_false_eq_true, false_imp_iff, true_imp_iff, implies_true]
    exact hQ w1 m mo _ _ _ _ hS hI
  | succ k ih =>
    intro i w1 m mo l3 l4 l5 hi hS hI
    have E := leF (a := n) (b := i) (by omega) (by omega)
    have hS' := hS
    obtain ⟨ga, gi, op, h82, h83, h86, hk, hm, hG⟩ := hS'
    have k45 := (hk 45 (by decide)).trans h45
    have k70 := (hk 70 (by decide)).trans h70
    have vi : vp_in (nI i) 48 := nI_in (by omega) (by decide)
    have mo01 : mo = 0 ∨ mo = 1 := hI.2.imp (fun z => z.1) (fun z => z.1)
    refine cx_run 100 mM_retime_mo ?_
    by_cases g : gt i
    · have B1 : gr i = 1 := (hB _ (by omega)).1 g
      simp (decide := true) only [BmM_retime, k45, k70, E, vi, B1, nI_clamp (n := i) (by omega), EV, EW, CT, ev_o, ev_is, ev_gd, List.length_cons, List.length_nil, Nat.reduceLT, Nat.reduceAdd, Nat.reduceEqDiff, Nat.reduceLeDiff, Int32.reduceLT, Int32.reduceLE, reduceIte, true_and, and_true, true_or, or_true, not_true_eq_false, not_false_eq_true, false_imp_iff, true_imp_iff, implies_true]
      refine cx_cs1 9 0 0 (by decide) (c_M_give (g := i) (hW.of fun k z => hk k (by unfold frG; omega)) k45 ((hk 81 (by decide)).trans h81) hmr hr g (hcv i g) (fun p hp => hz i p g hp) h82 h83 h86 hm hG) fun r_ w2 h => ?_
      obtain ⟨ga2, gi2, op2, m2, sm, rfl, b1, b2, b3, b4, b5, b6, b7⟩ := h
      have nx := RdI_give hI g (by omega) b7
      have S2 : GvS w w2 gt (rt_gv pl s lt st cv) r m2 := ⟨ga2, gi2, op2, b1, b2, b3, fun k z => (b4 k z).trans (hk k z), b5, b6⟩
      rcases b7.2.1 with ⟨e, _⟩ | ⟨e, _⟩
      · subst e
        rw [if_neg (by decide)] at nx
        rcases mo01 with e | e
        · subst e
          simp (decide := true) only [BmM_retime, nI_1, EV, EW, CT, ev_o, ev_is, ev_gd, List.length_cons, List.length_nil, Nat.reduceLT, Nat.reduceAdd, Nat.reduceEqDiff, Nat.reduceLeDiff, Int32.reduceLT, Int32.reduceLE, reduceIte, true_and, and_true, true_or, or_true, not_true_eq_false, not_false_eq_true, false_imp_iff, true_imp_iff, implies_true]
          exact ih (i + 1) w2 m2 0 _ _ _ (by omega) S2 nx
        · subst e
          simp (decide := true) only [BmM_retime, nI_1, EV, EW, CT, ev_o, ev_is, ev_gd, List.length_cons, List.length_nil, Nat.reduceLT, Nat.reduceAdd, Nat.reduceEqDiff, Nat.reduceLeDiff, Int32.reduceLT, Int32.reduceLE, reduceIte, true_and, and_true, true_or, or_true, not_true_eq_false, not_false_eq_true, false_imp_iff, true_imp_iff, implies_true]
          exact ih (i + 1) w2 m2 1 _ _ _ (by omega) S2 nx
      · subst e
        rw [if_pos rfl] at nx
        simp (decide := true) only [BmM_retime, nI_1, EV, EW, CT, ev_o, ev_is, ev_gd, List.length_cons, List.length_nil, Nat.reduceLT, Nat.reduceAdd, Nat.reduceEqDiff, Nat.reduceLeDiff, Int32.reduceLT, Int32.reduceLE, reduceIte, true_and, and_true, true_or, or_true, not_true_eq_false, not_false_eq_true, false_imp_iff, true_imp_iff, implies_true]
        exact ih (i + 1) w2 m2 1 _ _ _ (by omega) S2 nx
    · have B1 : gr i = 0 := (hB _ (by omega)).2 g
      have nx := RdI_skip hI g
      rcases mo01 with e | e
      · subst e
        simp (decide := true) only [BmM_retime, k45, k70, E, vi, B1, nI_1, nI_clamp (n := i) (by omega), EV, EW, CT, ev_o, ev_is, ev_gd, List.length_cons, List.length_nil, Nat.reduceLT, Nat.reduceAdd, Nat.reduceEqDiff, Nat.reduceLeDiff, Int32.reduceLT, Int32.reduceLE, reduceIte, true_and, and_true, true_or, or_true, not_true_eq_false, not_false_eq_true, false_imp_iff, true_imp_iff, implies_true]
        exact ih (i + 1) w1 m 0 _ _ _ (by omega) hS nx
      · subst e
        simp (decide := true) only [BmM_retime, k45, k70, E, vi, B1, nI_1, nI_clamp (n := i) (by omega), EV, EW, CT, ev_o, ev_is, ev_gd, List.length_cons, List.length_nil, Nat.reduceLT, Nat.reduceAdd, Nat.reduceEqDiff, Nat.reduceLeDiff, Int32.reduceLT, Int32.reduceLE, reduceIte, true_and, and_true, true_or, or_true, not_true_eq_false, not_false_eq_true, false_imp_iff, true_imp_iff, implies_true]
        exact ih (i + 1) w1 m 1 _ _ _ (by omega) hS nx
theorem RdI_done {gt : Nat → Prop} {pl : Nat → Nat} {s lt : Nat → Nat → Nat} {n : Nat} {r m0 m : Nat → Nat} (h48 : ∀ g, gt g → g < 48) (hgn : ∀ g, gt g → g < n) (hz : ∀ g p, gt g → p < pl g → lt g p = 0 → s g p < g)
    (hleg : ∀ g p, gt g → p < pl g → gt (s g p) → r g ≤ r (s g p) + lt g p) (hin : ∀ g p, gt g → p < pl g → ¬ gt (s g p) → r g ≤ lt g p) (hm : ∀ u, m u ≤ r u) (h : RdI gt pl s lt n r m0 m 0 n) : ∀ g, gt g → m g = r g := by
  rcases h.2 with ⟨_, _, c⟩ | ⟨z, _⟩
  · intro g0 gg0
    apply Classical.byContradiction
    intro hne
    obtain ⟨g, gg, hl, hp⟩ := rt_prog h48 hz hleg hin (fun g _ => hm g) ⟨g0, gg0, by have := hm g0; omega⟩
    rcases c g gg (hgn g gg) with e | e
    · omega
    · refine e fun p hp2 => ?_
      obtain ⟨y1, y2⟩ := hp p hp2
      unfold tdP
      by_cases q : m g < lt g p
      · exact .inl q
      · by_cases q2 : gt (s g p)
        · have := y1 q2
          exact .inr ⟨q2, by omega⟩
        · exact absurd (y2 q2) q
  · exact absurd z (by decide)
set_option maxHeartbeats 16000000 in
theorem mrt_rounds {w : cx_W} {n : Nat} {gt : Nat → Prop} {q pl d : Nat → Nat} {s lt st : Nat → Nat → Nat} {oc : Nat} {os ol ob : Nat → Nat} {pa dl ch gr so la_ mr : Nat → Int32} {sr : Nat → Int64} {x0 x1 x2 x4 x5 x6 x7 x8 x9 : Int32} {r : Nat → Nat} {cv : Nat → Nat → Bool} {Q : cx_Q} (hW : RmW w n gt q pl d s lt st oc os ol ob pa dl ch gr so la_ sr) (h45 : w 45 = oM x0 x1 x2 (nI n) x4 x5 x6 x7 x8 x9) (h81 : w 81 = ai 48 mr) (hmr : MvR mr r) (hr : ∀ u, r u ≤ 47) (hcv : ∀ g, gt g → ∀ b, b < 2 ^ pl g → wkP (q g) b = (cv g b).toNat) (hz : ∀ g p, gt g → p < pl g → lt g p = 0 → s g p < g)
    (hleg : ∀ g p, gt g → p < pl g → gt (s g p) → r g ≤ r (s g p) + lt g p) (hin : ∀ g p, gt g → p < pl g → ¬ gt (s g p) → r g ≤ lt g p)
    (hQ : ∀ (w2 : cx_W) (m : Nat → Nat) (l3 l4 l5 : Option Value), GvS w w2 gt (rt_gv pl s lt st cv) r m → (∀ g, gt g → m g = r g) → cx_OK none mM_retime 10 0 0 Q 77 [some (.ref 45), some (.int 0), some (.int (nI 0)), l3, l4, l5] [] w2 (87, 0, 0)) :
    ∀ (f : Nat) (w1 : cx_W) (m : Nat → Nat) (l2 l3 l4 l5 : Option Value), 2256 < rt_sum gt (fun u => (m u : Int)) n + (f : Int) → GvS w w1 gt (rt_gv pl s lt st cv) r m →
    cx_OK none mM_retime 10 0 0 Q 23 [some (.ref 45), some (.int 1), l2, l3, l4, l5] [] w1 (87, 0, 0) := by
  have hn := hW.1.1
  have hgn : ∀ g, gt g → g < n := fun g hg => (hW.2.2.1 g hg).1
  have bd : ∀ (w1 : cx_W) (m : Nat → Nat), GvS w w1 gt (rt_gv pl s lt st cv) r m → rt_sum gt (fun u => (m u : Int)) n ≤ 2256 := fun w1 m ⟨ga, gi, op, h82, h83, h86, hk, hm, hG⟩ => by
    have := rt_sum_le (gt := gt) (r := fun u => (m u : Int)) (n := n) (b := 47) (by omega) (fun u _ => by have := hG.1 u; have := hr u; omega)
    omega
  intro f
  induction f with
  | zero =>
    intro w1 m l2 l3 l4 l5 hf hS
    have := bd w1 m hS
    omega
  | succ f ih =>
    intro w1 m l2 l3 l4 l5 hf hS
    refine cx_run 100 mM_retime_mo ?_
    simp (decide := true) only [BmM_retime, EV, EW, CT, ev_o, ev_is, ev_gd, List.length_cons, List.length_nil, Nat.reduceLT, Nat.reduceAdd, Nat.reduceEqDiff, Nat.reduceLeDiff, Int32.reduceLT, Int32.reduceLE, reduceIte, true_and, and_true, true_or, or_true, not_true_eq_false, not_false_eq_true, false_imp_iff, true_imp_iff, implies_true]
    refine mrt_in (w := w) (m0 := m) hW h45 h81 hmr hr hcv hz (fun w2 m2 mo l2 l3 l4 l5 hS2 hI2 => ?_) n 0 w1 m 0 _ _ _ (by omega) hS ⟨fun u => Nat.le_refl _, .inl ⟨rfl, fun _ => rfl, fun g _ h => by omega⟩⟩
    rcases hI2.2 with ⟨e, _⟩ | ⟨e, hlt⟩
    · subst e
      have hd := RdI_done (fun g hg => by have := hgn g hg; omega) hgn hz hleg hin (by obtain ⟨ga, gi, op, _, _, _, _, _, hG⟩ := hS2; exact hG.1) hI2
      refine cx_run 100 mM_retime_mo ?_
      simp (decide := true) only [BmM_retime, EV, EW, CT, ev_o, ev_is, ev_gd, List.length_cons, List.length_nil, Nat.reduceLT, Nat.reduceAdd, Nat.reduceEqDiff, Nat.reduceLeDiff, Int32.reduceLT, Int32.reduceLE, reduceIte, true_and, and_true, true_or, or_true, not_true_eq_false, not_false_eq_true, false_imp_iff, true_imp_iff, implies_true]
      exact hQ w2 m2 _ _ _ hS2 hd
    · subst e
      exact ih w2 m2 _ _ _ _ (by omega) hS2
