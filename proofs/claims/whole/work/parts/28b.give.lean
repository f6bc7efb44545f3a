/-! What a gate gives while latches move: the reference's side. Own work. -/
/-- what is given so far -/
def GvI (gt : Nat → Prop) (gv : Nat → Nat → Bool) (r m : Nat → Nat) (ga : Nat → Int32) : Prop :=
  (∀ u, m u ≤ r u) ∧ ∀ g, gt g → ∀ j, j < m g → ga (48 * g + j) = nI (gv j g).toNat
/-- pin p of gate g is told at J -/
def tdP (gt : Nat → Prop) (s lt : Nat → Nat → Nat) (m : Nat → Nat) (g J p : Nat) : Prop := J < lt g p ∨ (gt (s g p) ∧ J - lt g p < m (s g p))
theorem GvI_put {gt : Nat → Prop} {gv : Nat → Nat → Bool} {r m : Nat → Nat} {ga : Nat → Int32} {g : Nat} (hr : ∀ u, r u ≤ 47) (h : GvI gt gv r m ga) (hl : m g < r g) : GvI gt gv r (incM m g) (upd ga (48 * g + m g) (nI (gv (m g) g).toNat)) := by
  refine ⟨fun u => ?_, fun u hu j hj => ?_⟩
  · by_cases e : u = g
    · rw [e, incM_s]; omega
    · rw [incM_n m e]; exact h.1 u
  · by_cases e : u = g
    · subst e
      rw [incM_s] at hj
      by_cases e2 : j = m u
      · rw [e2, pk_us]
      · rw [pk_un (by omega)]; exact h.2 u hu j (by omega)
    · rw [incM_n m e] at hj
      have := hr g
      have := hr u
      have := h.1 u
      rw [pk_un (by omega)]; exact h.2 u hu j hj
theorem MvR.inc {mr : Nat → Int32} {m : Nat → Nat} {g : Nat} (h : MvR mr m) : MvR (upd mr g (nI (m g + 1))) (incM m g) := fun j hj => by
  by_cases e : j = g
  · rw [e, pk_us, incM_s]
  · rw [pk_un e, incM_n m e]; exact h j hj
abbrev frG (k : Nat) : Prop := ¬ k = 82 ∧ ¬ k = 83 ∧ ¬ k = 86
set_option maxHeartbeats 16000000 in
theorem mgv_in {w : cx_W} {n : Nat} {gt : Nat → Prop} {q pl d : Nat → Nat} {s lt st : Nat → Nat → Nat} {oc : Nat} {os ol ob : Nat → Nat} {pa dl ch gr so la_ ga gi op : Nat → Int32} {sr : Nat → Int64} {x0 x1 x2 x3 x4 x5 x6 x7 x8 x9 : Int32} {r m : Nat → Nat} {cv : Nat → Nat → Bool} {f : Nat → Bool} {g : Nat} {Q : cx_Q} {sm : Int32} (hW : RmW w n gt q pl d s lt st oc os ol ob pa dl ch gr so la_ sr) (h45 : w 45 = oM x0 x1 x2 x3 x4 x5 x6 x7 x8 x9) (h82 : w 82 = ai 2304 ga) (h83 : w 83 = ai 48 gi) (h86 : w 86 = ai 8 op) (hm : MvR gi m) (hr : ∀ u, r u ≤ 47) (hg : gt g) (hcv : ∀ b, b < 2 ^ pl g → wkP (q g) b = (cv g b).toNat) (hgv : rt_gv pl s lt st cv (m g) g = cv g (pb f (pl g))) (hf : ∀ p, p < pl g → f p = rt_X (rt_gv pl s lt st cv) (s g p) (lt g p) (st g p) (m g)) (hI : GvI gt (rt_gv pl s lt st cv) r m ga) (hl : m g < r g)
    (h1 : ∀ (w2 : cx_W) (op2 : Nat → Int32) (l4 l5 l6 : Option Value), w2 82 = ai 2304 (upd ga (48 * g + m g) (nI (rt_gv pl s lt st cv (m g) g).toNat)) → w2 83 = ai 48 (upd gi g (nI (m g + 1))) → w2 86 = ai 8 op2 → (∀ k, frG k → w2 k = w k) → cx_OK none mM_give 9 0 0 Q 4 [some (.ref 45), some (.int (nI g)), some (.int 1), some (.int 1), l4, l5, l6] [] w2 (87, 0, 0))
    (h0 : ∀ (l4 l5 l6 : Option Value), ¬ (∀ p, p < pl g → tdP gt s lt m g (m g) p) → cx_OK none mM_give 9 0 0 Q 4 [some (.ref 45), some (.int (nI g)), some (.int sm), some (.int 0), l4, l5, l6] [] w (87, 0, 0)) :
    ∀ (k p : Nat) (ov va : Int32), p + k = pl g → ((ov = 1 ∧ va = nI (pb f p) ∧ ∀ p', p' < p → tdP gt s lt m g (m g) p') ∨ (ov = 0 ∧ ∃ p', p' < pl g ∧ ¬ tdP gt s lt m g (m g) p')) →
    cx_OK none mM_give 9 0 0 Q 41 [some (.ref 45), some (.int (nI g)), some (.int sm), some (.int ov), some (.int (nI (pl g))), some (.int va), some (.int (nI p))] [] w (87, 0, 0) := by
  have hpl := pl4 hW g hg
  obtain ⟨⟨hn, hoc, h61, h63, h68, h70, h73, h74, h75⟩, hB, hgd, hd, hcn, hno, hon, hoo⟩ := hW
  obtain ⟨gn, hq, hp0, c, cc1, cc2, cc3, cc4⟩ := hgd g hg
  have vg : vp_in (nI g) 48 := nI_in (by omega) (by decide)
  have hrg := hr g
  have gid : gi g = nI (m g) := hm g (by omega)
  intro k
  induction k with
  | zero =>
    intro p ov va hp hs
    have e : p = pl g := by omega
    subst e
    have E := leT (a := pl g) (b := pl g) (by omega) (by omega)
    refine cx_run 120 mM_give_mo ?_
    rcases hs with ⟨rfl, rfl, ht⟩ | ⟨rfl, p', hp', hn'⟩
    · have hb := pb_lt f (pl g)
      have hv := hcv _ hb
      rw [← hgv] at hv
      have h16 : 2 ^ pl g ≤ 2 ^ 4 := Nat.pow_le_pow_right (by decide) hpl
      have v2 : vp_in (nI (48 * g + m g)) 2304 := nI_in (by omega) (by decide)
      simp (decide := true) only [BmM_give, h45, h68, h82, h83, vg, E, cc2, gid, mu48, nI_add, nI_clamp (n := g) (by omega), EV, EW, CT, ev_o, ev_is, ev_gd, List.length_cons, List.length_nil, Nat.reduceLT, Nat.reduceAdd, Nat.reduceEqDiff, Nat.reduceLeDiff, Int32.reduceLT, Int32.reduceLE, reduceIte, true_and, and_true, true_or, or_true, not_true_eq_false, not_false_eq_true, false_imp_iff, true_imp_iff, implies_true]
      refine cx_cs1 8 0 0 (by decide) (c_M_work h45 h61 h86 cc1 cc3 hq (by omega)) fun r_ w2 h => ?_
      obtain ⟨rfl, ⟨op2, k86⟩, hk⟩ := h
      have k45 := (hk 45 (by decide)).trans h45
      have k82 := (hk 82 (by decide)).trans h82
      have k83 := (hk 83 (by decide)).trans h83
      simp (decide := true) only [BmM_give, k45, k82, k83, vg, v2, gid, hv, nI_1, nI_clamp (n := g) (by omega), nI_clamp (n := 48 * g + m g) (by omega), EV, EW, CT, ev_o, ev_is, ev_gd, List.length_cons, List.length_nil, Nat.reduceLT, Nat.reduceAdd, Nat.reduceEqDiff, Nat.reduceLeDiff, Int32.reduceLT, Int32.reduceLE, reduceIte, true_and, and_true, true_or, or_true, not_true_eq_false, not_false_eq_true, false_imp_iff, true_imp_iff, implies_true]
      exact h1 _ op2 _ _ _ (by simp only [cx_up, Nat.reduceEqDiff, reduceIte]) (by simp only [cx_up, Nat.reduceEqDiff, reduceIte]) (by simp only [cx_up, Nat.reduceEqDiff, reduceIte]; exact k86) (fun k z => by rw [← hk k z.2.2]; simp (disch := omega) only [cx_up, if_neg])
    · simp (decide := true) only [BmM_give, E, EV, EW, CT, ev_o, ev_is, ev_gd, List.length_cons, List.length_nil, Nat.reduceLT, Nat.reduceAdd, Nat.reduceEqDiff, Nat.reduceLeDiff, Int32.reduceLT, Int32.reduceLE, reduceIte, true_and, and_true, true_or, or_true, not_true_eq_false, not_false_eq_true, false_imp_iff, true_imp_iff, implies_true]
      exact h0 _ _ _ fun y => hn' (y p' hp')
  | succ k ih =>
    intro p ov va hp hs
    have E := leF (a := pl g) (b := p) (by omega) (by omega)
    refine cx_run 200 mM_give_mo ?_
    rcases hs with ⟨rfl, rfl, ht⟩ | ⟨rfl, p', hp', hn'⟩
    · obtain ⟨c1, c2, c3, c4, c5, c6⟩ := hcn g p hg (by omega)
      have ve : vp_in (nI (4 * g + p)) 196 := nI_in (by omega) (by decide)
      have vs : vp_in (nI (s g p)) 48 := nI_in (by omega) (by decide)
      have PB := pb_or (f := f) (k := p) (by omega)
      have fp := hf p (by omega)
      have go : tdP gt s lt m g (m g) p → cx_OK none mM_give 9 0 0 Q 41 [some (.ref 45), some (.int (nI g)), some (.int sm), some (.int 1), some (.int (nI (pl g))), some (.int (nI (pb f (p + 1)))), some (.int (nI (p + 1)))] [] w (87, 0, 0) := fun hb => by
        refine ih (p + 1) 1 _ (by omega) (.inl ⟨rfl, rfl, fun p' h' => ?_⟩)
        by_cases e : p' = p
        · rw [e]; exact hb
        · exact ht p' (by omega)
      by_cases j : m g < lt g p
      · have E2 := ltT (a := m g) (b := lt g p) j (by omega)
        have E3 := leF (a := lt g p) (b := m g) j (by omega)
        obtain ⟨S1, B⟩ := co_bit (sv := s g p) (gv := rt_gv pl s lt st cv) c5 c6 j
        rw [← fp] at B
        simp (decide := true) only [BmM_give, BmM_told, BmM_comes, h45, h74, h75, h83, vg, ve, E, E2, E3, S1, B, PB, c2, c3, gid, mu4, nI_add, nI_1, nI_clamp (n := g) (by omega), nI_clamp (n := 4 * g + p) (by omega), EV, EW, CT, ev_o, ev_is, ev_gd, List.length_cons, List.length_nil, Nat.reduceLT, Nat.reduceAdd, Nat.reduceEqDiff, Nat.reduceLeDiff, Int32.reduceLT, Int32.reduceLE, reduceIte, true_and, and_true, true_or, or_true, not_true_eq_false, not_false_eq_true, false_imp_iff, true_imp_iff, implies_true]
        exact go (.inl j)
      · have E2 := ltF (a := m g) (b := lt g p) (by omega) (by omega)
        have E3 := leT (a := lt g p) (b := m g) (by omega) (by omega)
        by_cases gs : gt (s g p)
        · have B1 : gr (s g p) = 1 := (hB _ (by omega)).1 gs
          have hms := hm (s g p) (by omega)
          have b1 := hI.1 (s g p)
          have b2 := hr (s g p)
          have S2 : nI (m g) - nI (lt g p) = nI (m g - lt g p) := nI_sb (by omega)
          by_cases z : m g - lt g p < m (s g p)
          · have T := leF (a := m (s g p)) (b := m g - lt g p) z (by omega)
            obtain ⟨S1, B⟩ := co_row (bv := st g p) (gv := rt_gv pl s lt st cv) j (hI.2 _ gs _ z)
            rw [← fp] at B
            have v3 : vp_in (nI (48 * s g p + (m g - lt g p))) 2304 := nI_in (by omega) (by decide)
            simp (decide := true) only [BmM_give, BmM_told, BmM_comes, h45, h70, h73, h74, h82, h83, vg, ve, vs, v3, E, E2, E3, S1, S2, T, B, B1, PB, c1, c2, hms, gid, mu4, mu48, nI_add, nI_1, nI_clamp (n := g) (by omega), nI_clamp (n := 4 * g + p) (by omega), nI_clamp (n := s g p) (by omega), nI_clamp (n := 48 * s g p + (m g - lt g p)) (by omega), EV, EW, CT, ev_o, ev_is, ev_gd, List.length_cons, List.length_nil, Nat.reduceLT, Nat.reduceAdd, Nat.reduceEqDiff, Nat.reduceLeDiff, Int32.reduceLT, Int32.reduceLE, reduceIte, true_and, and_true, true_or, or_true, not_true_eq_false, not_false_eq_true, false_imp_iff, true_imp_iff, implies_true]
            exact go (.inr ⟨gs, z⟩)
          · have T := leT (a := m (s g p)) (b := m g - lt g p) (by omega) (by omega)
            simp (decide := true) only [BmM_give, BmM_told, BmM_comes, h45, h70, h73, h74, h83, vg, ve, vs, E, E2, S2, T, B1, c1, c2, hms, gid, mu4, nI_add, nI_1, nI_clamp (n := g) (by omega), nI_clamp (n := 4 * g + p) (by omega), nI_clamp (n := s g p) (by omega), EV, EW, CT, ev_o, ev_is, ev_gd, List.length_cons, List.length_nil, Nat.reduceLT, Nat.reduceAdd, Nat.reduceEqDiff, Nat.reduceLeDiff, Int32.reduceLT, Int32.reduceLE, reduceIte, true_and, and_true, true_or, or_true, not_true_eq_false, not_false_eq_true, false_imp_iff, true_imp_iff, implies_true]
            exact ih (p + 1) 0 _ (by omega) (.inr ⟨rfl, p, by omega, fun y => y.elim j fun y => z y.2⟩)
        · have B1 : gr (s g p) = 0 := (hB _ (by omega)).2 gs
          simp (decide := true) only [BmM_give, BmM_told, BmM_comes, h45, h70, h73, h74, h83, vg, ve, vs, E, E2, B1, c1, c2, gid, mu4, nI_add, nI_1, nI_clamp (n := g) (by omega), nI_clamp (n := 4 * g + p) (by omega), nI_clamp (n := s g p) (by omega), EV, EW, CT, ev_o, ev_is, ev_gd, List.length_cons, List.length_nil, Nat.reduceLT, Nat.reduceAdd, Nat.reduceEqDiff, Nat.reduceLeDiff, Int32.reduceLT, Int32.reduceLE, reduceIte, true_and, and_true, true_or, or_true, not_true_eq_false, not_false_eq_true, false_imp_iff, true_imp_iff, implies_true]
          exact ih (p + 1) 0 _ (by omega) (.inr ⟨rfl, p, by omega, fun y => y.elim j fun y => gs y.1⟩)
    · simp (decide := true) only [BmM_give, E, nI_1, EV, EW, CT, ev_o, ev_is, ev_gd, List.length_cons, List.length_nil, Nat.reduceLT, Nat.reduceAdd, Nat.reduceEqDiff, Nat.reduceLeDiff, Int32.reduceLT, Int32.reduceLE, reduceIte, true_and, and_true, true_or, or_true, not_true_eq_false, not_false_eq_true, false_imp_iff, true_imp_iff, implies_true]
      exact ih (p + 1) 0 _ (by omega) (.inr ⟨rfl, p', hp', hn'⟩)
/-- what a call of give leaves -/
def GvA (gt : Nat → Prop) (pl : Nat → Nat) (s lt : Nat → Nat → Nat) (r m m2 : Nat → Nat) (g : Nat) (sm : Int32) : Prop :=
  (∀ u, ¬ u = g → m2 u = m u) ∧ ((sm = 0 ∧ m2 g = m g) ∨ (sm = 1 ∧ m g < m2 g)) ∧ (m2 g = r g ∨ ¬ ∀ p, p < pl g → tdP gt s lt m2 g (m2 g) p)
set_option maxHeartbeats 16000000 in
theorem mgv_out {w : cx_W} {n : Nat} {gt : Nat → Prop} {q pl d : Nat → Nat} {s lt st : Nat → Nat → Nat} {oc : Nat} {os ol ob : Nat → Nat} {pa dl ch gr so la_ mr : Nat → Int32} {sr : Nat → Int64} {x0 x1 x2 x3 x4 x5 x6 x7 x8 x9 : Int32} {r m0 : Nat → Nat} {cv : Nat → Nat → Bool} {g : Nat} {Q : cx_Q} (hW : RmW w n gt q pl d s lt st oc os ol ob pa dl ch gr so la_ sr) (h45 : w 45 = oM x0 x1 x2 x3 x4 x5 x6 x7 x8 x9) (h81 : w 81 = ai 48 mr) (hmr : MvR mr r) (hr : ∀ u, r u ≤ 47) (hg : gt g) (hcv : ∀ b, b < 2 ^ pl g → wkP (q g) b = (cv g b).toNat) (hz : ∀ p, p < pl g → lt g p = 0 → s g p < g)
    (hQ : ∀ (w2 : cx_W) (ga gi op : Nat → Int32) (m : Nat → Nat) (sm : Int32), w2 82 = ai 2304 ga → w2 83 = ai 48 gi → w2 86 = ai 8 op → (∀ k, frG k → w2 k = w k) → MvR gi m → GvI gt (rt_gv pl s lt st cv) r m ga → GvA gt pl s lt r m0 m g sm → Q (some (.int sm)) w2 (87, 0, 0)) :
    ∀ (f : Nat) (w1 : cx_W) (ga gi op : Nat → Int32) (m : Nat → Nat) (sm : Int32) (l4 l5 l6 : Option Value), r g - m g ≤ f → w1 82 = ai 2304 ga → w1 83 = ai 48 gi → w1 86 = ai 8 op → (∀ k, frG k → w1 k = w k) → MvR gi m → GvI gt (rt_gv pl s lt st cv) r m ga → (∀ u, ¬ u = g → m u = m0 u) → ((sm = 0 ∧ m g = m0 g) ∨ (sm = 1 ∧ m0 g < m g)) →
    cx_OK none mM_give 9 0 0 Q 4 [some (.ref 45), some (.int (nI g)), some (.int sm), some (.int 1), l4, l5, l6] [] w1 (87, 0, 0) := by
  have gn := (hW.2.2.1 g hg).1
  have hn := hW.1.1
  have vg : vp_in (nI g) 48 := nI_in (by omega) (by decide)
  have hrg := hr g
  have mrg := hmr g (by omega)
  have full : ∀ (w1 : cx_W) (ga gi op : Nat → Int32) (m : Nat → Nat) (sm : Int32) (l4 l5 l6 : Option Value), m g = r g → w1 82 = ai 2304 ga → w1 83 = ai 48 gi → w1 86 = ai 8 op → (∀ k, frG k → w1 k = w k) → MvR gi m → GvI gt (rt_gv pl s lt st cv) r m ga → (∀ u, ¬ u = g → m u = m0 u) → ((sm = 0 ∧ m g = m0 g) ∨ (sm = 1 ∧ m0 g < m g)) →
      cx_OK none mM_give 9 0 0 Q 4 [some (.ref 45), some (.int (nI g)), some (.int sm), some (.int 1), l4, l5, l6] [] w1 (87, 0, 0) := by
    intro w1 ga gi op m sm l4 l5 l6 he h82 h83 h86 hk hm hI ho hs
    have gid := hm g (by omega)
    have E := leT (a := r g) (b := m g) (by omega) (by omega)
    have k45 := (hk 45 (by decide)).trans h45
    have k81 := (hk 81 (by decide)).trans h81
    refine cx_run 120 mM_give_mo ?_
    simp (decide := true) only [BmM_give, k45, k81, h83, vg, gid, mrg, E, nI_clamp (n := g) (by omega), EV, EW, CT, ev_o, ev_is, ev_gd, List.length_cons, List.length_nil, Nat.reduceLT, Nat.reduceAdd, Nat.reduceEqDiff, Nat.reduceLeDiff, Int32.reduceLT, Int32.reduceLE, reduceIte, true_and, and_true, true_or, or_true, not_true_eq_false, not_false_eq_true, false_imp_iff, true_imp_iff, implies_true]
    have s01 : sm = 0 ∨ sm = 1 := hs.imp (fun z => z.1) (fun z => z.1)
    exact ⟨s01, hQ w1 ga gi op m sm h82 h83 h86 hk hm hI ⟨ho, hs, .inl he⟩⟩
  intro f
  induction f with
  | zero =>
    intro w1 ga gi op m sm l4 l5 l6 hf h82 h83 h86 hk hm hI ho hs
    have := hI.1 g
    exact full w1 ga gi op m sm l4 l5 l6 (by omega) h82 h83 h86 hk hm hI ho hs
  | succ f ih =>
    intro w1 ga gi op m sm l4 l5 l6 hf h82 h83 h86 hk hm hI ho hs
    have hle := hI.1 g
    by_cases e : m g = r g
    · exact full w1 ga gi op m sm l4 l5 l6 e h82 h83 h86 hk hm hI ho hs
    · have gid := hm g (by omega)
      have E := leF (a := r g) (b := m g) (by omega) (by omega)
      have k45 := (hk 45 (by decide)).trans h45
      have k81 := (hk 81 (by decide)).trans h81
      have hW1 := hW.of (w1 := w1) fun k z => hk k (by unfold frG; omega)
      obtain ⟨⟨hn, hoc, h61, h63, h68, h70, h73, h74, h75⟩, hB, hgd, hd, hcn, hno, hon, hoo⟩ := hW1
      obtain ⟨_, hq, hp0, c, cc1, cc2, cc3, cc4⟩ := hgd g hg
      refine cx_run 120 mM_give_mo ?_
      simp (decide := true) only [BmM_give, k45, k81, h83, h68, vg, gid, mrg, E, cc2, nI_clamp (n := g) (by omega), EV, EW, CT, ev_o, ev_is, ev_gd, List.length_cons, List.length_nil, Nat.reduceLT, Nat.reduceAdd, Nat.reduceEqDiff, Nat.reduceLeDiff, Int32.reduceLT, Int32.reduceLE, reduceIte, true_and, and_true, true_or, or_true, not_true_eq_false, not_false_eq_true, false_imp_iff, true_imp_iff, implies_true]
      refine cx_cs1 8 0 0 (by decide) (c_M_pinsOf (dd := 8) k45 h61 cc1 cc3 hq) fun r_ w2 h => ?_
      obtain ⟨rfl, rfl⟩ := h
      rw [← hp0]
      simp (decide := true) only [BmM_give, EV, EW, CT, ev_o, ev_is, ev_gd, List.length_cons, List.length_nil, Nat.reduceLT, Nat.reduceAdd, Nat.reduceEqDiff, Nat.reduceLeDiff, Int32.reduceLT, Int32.reduceLE, reduceIte, true_and, and_true, true_or, or_true, not_true_eq_false, not_false_eq_true, false_imp_iff, true_imp_iff, implies_true]
      refine mgv_in (w := w2) (f := fun p => rt_X (rt_gv pl s lt st cv) (s g p) (lt g p) (st g p) (m g)) (hW.of fun k z => hk k (by unfold frG; omega)) k45 h82 h83 h86 hm hr hg hcv (rt_gv_eq hz (m g)) (fun _ _ => rfl) hI (by omega) (fun w3 op3 l4 l5 l6 a1 a2 a3 a4 => ?_) (fun l4 l5 l6 hno => ?_) (pl g) 0 1 _ (by omega) (.inl ⟨rfl, rfl, fun p' h' => by omega⟩)
      · refine ih w3 _ _ op3 (incM m g) 1 l4 l5 l6 (by rw [incM_s]; omega) a1 a2 a3 (fun k z => (a4 k z).trans (hk k z)) hm.inc (GvI_put hr hI (by omega)) (fun u hu => by rw [incM_n m hu]; exact ho u hu) (.inr ⟨rfl, ?_⟩)
        rw [incM_s]
        omega
      · refine cx_run 120 mM_give_mo ?_
        simp (decide := true) only [BmM_give, EV, EW, CT, ev_o, ev_is, ev_gd, List.length_cons, List.length_nil, Nat.reduceLT, Nat.reduceAdd, Nat.reduceEqDiff, Nat.reduceLeDiff, Int32.reduceLT, Int32.reduceLE, reduceIte, true_and, and_true, true_or, or_true, not_true_eq_false, not_false_eq_true, false_imp_iff, true_imp_iff, implies_true]
        have s01 : sm = 0 ∨ sm = 1 := hs.imp (fun z => z.1) (fun z => z.1)
        exact ⟨s01, hQ w2 ga gi op m sm h82 h83 h86 hk hm hI ⟨ho, hs, .inr hno⟩⟩
set_option maxHeartbeats 8000000 in
theorem c_M_give {w : cx_W} {n : Nat} {gt : Nat → Prop} {q pl d : Nat → Nat} {s lt st : Nat → Nat → Nat} {oc : Nat} {os ol ob : Nat → Nat} {pa dl ch gr so la_ mr ga gi op : Nat → Int32} {sr : Nat → Int64} {x0 x1 x2 x3 x4 x5 x6 x7 x8 x9 : Int32} {r m : Nat → Nat} {cv : Nat → Nat → Bool} {g : Nat} (hW : RmW w n gt q pl d s lt st oc os ol ob pa dl ch gr so la_ sr) (h45 : w 45 = oM x0 x1 x2 x3 x4 x5 x6 x7 x8 x9) (h81 : w 81 = ai 48 mr) (hmr : MvR mr r) (hr : ∀ u, r u ≤ 47) (hg : gt g) (hcv : ∀ b, b < 2 ^ pl g → wkP (q g) b = (cv g b).toNat) (hz : ∀ p, p < pl g → lt g p = 0 → s g p < g) (h82 : w 82 = ai 2304 ga) (h83 : w 83 = ai 48 gi) (h86 : w 86 = ai 8 op) (hm : MvR gi m) (hI : GvI gt (rt_gv pl s lt st cv) r m ga) :
    cx_MC mM_give 9 0 0 [.ref 45, .int (nI g)] w 87 (fun r_ w2 => ∃ (ga2 gi2 op2 : Nat → Int32) (m2 : Nat → Nat) (sm : Int32), r_ = some (.int sm) ∧ w2 82 = ai 2304 ga2 ∧ w2 83 = ai 48 gi2 ∧ w2 86 = ai 8 op2 ∧ (∀ k, frG k → w2 k = w k) ∧ MvR gi2 m2 ∧ GvI gt (rt_gv pl s lt st cv) r m2 ga2 ∧ GvA gt pl s lt r m m2 g sm) := by
  refine cx_met 60 mM_give_ok rfl ?_
  show cx_vc 60 none mM_give 9 0 0 _ _ 0 [some (.ref 45), some (.int (nI g)), none, none, none, none, none] [] w (87, 0, 0)
  simp (decide := true) only [BmM_give, EV, EW, CT, ev_o, ev_is, ev_gd, List.length_cons, List.length_nil, Nat.reduceLT, Nat.reduceAdd, Nat.reduceEqDiff, Nat.reduceLeDiff, Int32.reduceLT, Int32.reduceLE, reduceIte, true_and, and_true, true_or, or_true, not_true_eq_false, not_false_eq_true, false_imp_iff, true_imp_iff, implies_true]
  exact mgv_out (w := w) hW h45 h81 hmr hr hg hcv hz (fun w2 ga2 gi2 op2 m2 sm a1 a2 a3 a4 a5 a6 a7 => ⟨ga2, gi2, op2, m2, sm, rfl, a1, a2, a3, a4, a5, a6, a7⟩) (r g - m g) w ga gi op m 0 _ _ _ (Nat.le_refl _) h82 h83 h86 (fun _ _ => rfl) hm hI (fun _ _ => rfl) (.inl ⟨rfl, rfl⟩)
