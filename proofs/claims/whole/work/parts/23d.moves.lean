/-! Making the moves: the given side. Own work. -/
/-- what the moves are to be -/
def MvH (n : Nat) (gt : Nat → Prop) (pl F S L B tf mv : Nat → Nat) (fo oc : Nat) : Prop :=
  (∀ g, gt g → g < n) ∧ (∀ u, ¬ gt u → mv u = 0) ∧ (∀ u, mv u ≤ 47) ∧ sumN mv 48 ≤ 2256 ∧ (∀ e, e < fo + oc → L e ≤ 6 ∧ B e < 2 ^ L e) ∧ (∀ e, e < fo → gt (tf e)) ∧
  (∀ g e, gt g → e < fo → (tf e = g ↔ F g ≤ e ∧ e < F g + pl g)) ∧ (∀ g p, gt g → p < pl g → L (F g + p) = 0 → S (F g + p) < g) ∧
  ∀ g p, gt g → p < pl g → mv g ≤ mv (S (F g + p)) + L (F g + p)
theorem sm_bd {fo oc : Nat} {pl F S L B tbl tf m mv cn ro : Nat → Nat} (h : SM fo oc pl F S L B tbl tf m cn ro) (hm : ∀ u, m u ≤ mv u) (h47 : ∀ u, mv u ≤ 47) (hL : ∀ e, e < fo + oc → L e ≤ 6) : ∀ e, e < fo + oc → cn e ≤ 60 ∧ ro e < 2 ^ cn e := by
  intro e he
  have ⟨h1, h2⟩ := h e he
  have := hm (S e); have := h47 (S e); have := hL e he
  exact ⟨by omega, by rw [h2]; exact rowv_lt _ _ _⟩
theorem sumN_inc {m : Nat → Nat} {g : Nat} : ∀ {n : Nat}, g < n → sumN (incM m g) n = sumN m n + 1 := by
  have z : ∀ n, n ≤ g → sumN (incM m g) n = sumN m n := by
    intro n
    induction n with
    | zero => intro _; rfl
    | succ n ih => intro h; rw [sumN, sumN, ih (by omega), incM_n m (by omega)]
  intro n
  induction n with
  | zero => intro h; omega
  | succ n ih =>
    intro h
    rw [sumN, sumN]
    by_cases e : n = g
    · subst e; rw [z n (Nat.le_refl _), incM_s]; omega
    · rw [ih (by omega), incM_n m e]; omega
/-- nothing moves any more: all is moved -/
theorem mv_all {n fo oc : Nat} {gt : Nat → Prop} {pl F S L B tbl tf m mv cn ro : Nat → Nat} (hH : MvH n gt pl F S L B tf mv fo oc) (hn : n ≤ 48) (hF : ∀ g, gt g → F g + pl g ≤ fo) (h : SM fo oc pl F S L B tbl tf m cn ro) (hm : ∀ u, m u ≤ mv u) (hs : ∀ g, gt g → ¬ (m g < mv g ∧ ∀ p, p < pl g → ¬ cn (F g + p) = 0)) : ∀ u, m u = mv u := by
  obtain ⟨h1, h2, h3, h4, h5, h6, h7, h8, h9⟩ := hH
  intro u
  by_cases gu : gt u
  · refine Classical.byContradiction fun ne => ?_
    have ⟨g, a, b, c⟩ := rt_prog (gt := gt) (pn := pl) (src := fun g p => S (F g + p)) (lt := fun g p => L (F g + p)) (mv := mv) (m := m) (fun g hg => by have := h1 g hg; omega) (fun g p hg hp => h8 g p hg hp) (fun g p hg hp _ => h9 g p hg hp) (fun g p hg hp hs => by have := h9 g p hg hp; have := h2 _ hs; omega) (fun g hg => hm g) ⟨u, gu, by have := hm u; omega⟩
    refine hs g a ⟨b, fun p hp hz => ?_⟩
    have hF2 := hF g a
    have ⟨q1, _⟩ := h (F g + p) (by omega)
    have et : tkM fo tf m (F g + p) = m g := by unfold tkM; rw [if_pos (by omega), (h7 g (F g + p) a (by omega)).mpr ⟨by omega, by omega⟩]
    rw [et, hz] at q1
    have cc := c p hp
    by_cases gs : gt (S (F g + p))
    · have := cc.1 gs; omega
    · have := cc.2 gs; omega
  · have := hm u; have := h2 u gu; omega
set_option maxHeartbeats 16000000 in
theorem mm_in {w : cx_W} {n : Nat} {gt : Nat → Prop} {pl F S L B tbl tf mv m0 : Nat → Nat} {fo oc : Nat} {gs ch pn tb sr fg : Nat → Int32} {y0 y1 : Int32} {rd : Nat} {Q : cx_Q} (hW : MvW w n gt pl F fo oc S tbl gs ch pn tb sr fg) (hH : MvH n gt pl F S L B tf mv fo oc) (h36 : w 36 = oRe y0 y1)
    (hQ : ∀ (w1 : cx_W) (tr ct : Nat → Int32) (rw : Nat → Int64) (m cn ro : Nat → Nat) (mo : Int32) (l3 l4 : Option Value), w1 38 = ai 48 tr → w1 33 = ai 196 ct → w1 34 = al 196 rw → (∀ k, ¬ k = 33 ∧ ¬ k = 34 ∧ ¬ k = 38 → w1 k = w k) → (∀ u, m u ≤ mv u) → (∀ u, gt u → tr u = nI (mv u - m u)) → SM fo oc pl F S L B tbl tf m cn ro → (∀ e, e < fo + oc → ct e = nI (cn e) ∧ rw e = lN (ro e)) → ((mo = 1 ∧ sumN m0 48 + 1 ≤ sumN m 48) ∨ (mo = 0 ∧ ∀ u, m u = mv u)) →
      cx_OK none mRe_makeMoves 9 0 0 Q 19 [some (.ref 36), some (.int mo), some (.int (nI (rd + 1))), l3, l4] [] w1 (87, 0, 0)) :
    ∀ (r i : Nat) (w1 : cx_W) (tr ct : Nat → Int32) (rw : Nat → Int64) (m cn ro : Nat → Nat) (mo : Int32) (l4 : Option Value), i + r = rt_cnt gt n → w1 38 = ai 48 tr → w1 33 = ai 196 ct → w1 34 = al 196 rw → (∀ k, ¬ k = 33 ∧ ¬ k = 34 ∧ ¬ k = 38 → w1 k = w k) → (∀ u, m u ≤ mv u) → (∀ u, gt u → tr u = nI (mv u - m u)) → SM fo oc pl F S L B tbl tf m cn ro → (∀ e, e < fo + oc → ct e = nI (cn e) ∧ rw e = lN (ro e)) → ((mo = 1 ∧ sumN m0 48 + 1 ≤ sumN m 48) ∨ (mo = 0 ∧ m = m0 ∧ ∀ g, gt g → rt_cnt gt g < i → ¬ (m g < mv g ∧ ∀ p, p < pl g → ¬ cn (F g + p) = 0))) →
      cx_OK none mRe_makeMoves 9 0 0 Q 34 [some (.ref 36), some (.int mo), some (.int (nI rd)), some (.int (nI i)), l4] [] w1 (87, 0, 0) := by
  have hW' := hW
  have hH' := hH
  obtain ⟨⟨hn, ⟨x13, h13⟩, h17, h19, h20, h24, h29, h30, h31, h35⟩, hG, hfo, hgd, hinj, hsr⟩ := hW
  obtain ⟨q1, q2, q3, q4, q5, q6, q7, q8, q9⟩ := hH
  have hcl := rt_cnt_le gt n
  intro r
  induction r with
  | zero =>
    intro i w1 tr ct rw m cn ro mo l4 hi h38 h33 h34 hk hm ht hS hc hI
    have E := leT (a := rt_cnt gt n) (b := i) (by omega) (by omega)
    have k36 := (hk 36 (by decide)).trans h36
    have k20 := (hk 20 (by decide)).trans h20
    refine cx_run 100 mRe_makeMoves_mo ?_
    simp (decide := true) only [BmRe_makeMoves, BSC, k36, k20, E, nI_1, EV, EW, CT, ev_o, ev_is, ev_gd, List.length_cons, List.length_nil, Nat.reduceLT, Nat.reduceAdd, Nat.reduceEqDiff, Nat.reduceLeDiff, Int32.reduceLT, Int32.reduceLE, reduceIte, true_and, and_true, true_or, or_true, not_true_eq_false, not_false_eq_true, false_imp_iff, true_imp_iff, implies_true]
    refine hQ w1 tr ct rw m cn ro mo _ _ h38 h33 h34 hk hm ht hS hc ?_
    rcases hI with h | ⟨h1, h2, h3⟩
    · exact .inl h
    · exact .inr ⟨h1, mv_all hH' hn (fun g hg => (hgd g hg).2.2.1) hS hm fun g hg => h3 g hg (by have := rt_cnt_up hg (q1 g hg); omega)⟩
  | succ r ih =>
    intro i w1 tr ct rw m cn ro mo l4 hi h38 h33 h34 hk hm ht hS hc hI
    have E := leF (a := rt_cnt gt n) (b := i) (by omega) (by omega)
    have k36 := (hk 36 (by decide)).trans h36
    have k20 := (hk 20 (by decide)).trans h20
    have k29 := (hk 29 (by decide)).trans h29
    have v1 : vp_in (nI i) 48 := nI_in (by omega) (by decide)
    obtain ⟨g, g1, g2, g3, g4⟩ := hG.at (show i < rt_cnt gt n by omega)
    have vg : vp_in (nI g) 48 := nI_in (by omega) (by decide)
    have tg := ht g g2
    have hmg := hm g
    have h47 := q3 g
    have hbd := sm_bd hS hm q3 (fun e he => (q5 e he).1)
    have hW1 := hW'.of (w1 := w1) fun k z => hk k (by omega)
    have stay : ¬ (m g < mv g ∧ ∀ p, p < pl g → ¬ cn (F g + p) = 0) → ∀ l4, cx_OK none mRe_makeMoves 9 0 0 Q 34 [some (.ref 36), some (.int mo), some (.int (nI rd)), some (.int (nI (i + 1))), l4] [] w1 (87, 0, 0) := fun hno l4 =>
      ih (i + 1) w1 tr ct rw m cn ro mo l4 (by omega) h38 h33 h34 hk hm ht hS hc (hI.imp id fun ⟨h1, h2, h3⟩ => ⟨h1, h2, fun g' hg' hl => by
        by_cases e : g' = g
        · rw [e]; exact hno
        · exact h3 g' hg' (by
            by_cases e2 : rt_cnt gt g' = i
            · exact absurd (rt_cnt_inj hg' g2 (e2.trans g3.symm)) e
            · omega)⟩)
    refine cx_run 100 mRe_makeMoves_mo ?_
    by_cases lt0 : m g < mv g
    · have T : (nI (mv g - m g) ≤ 0) = False := eq_false (Int32.not_le.mpr (nI_lt (a := 0) (by omega) (by omega)))
      simp (decide := true) only [BmRe_makeMoves, BSC, k36, k20, k29, h38, E, v1, vg, g4, tg, T, nI_clamp (n := i) (by omega), nI_clamp (n := g) (by omega), EV, EW, CT, ev_o, ev_is, ev_gd, List.length_cons, List.length_nil, Nat.reduceLT, Nat.reduceAdd, Nat.reduceEqDiff, Nat.reduceLeDiff, Int32.reduceLT, Int32.reduceLE, reduceIte, true_and, and_true, true_or, or_true, not_true_eq_false, not_false_eq_true, false_imp_iff, true_imp_iff, implies_true]
      by_cases can : ∀ p, p < pl g → ¬ cn (F g + p) = 0
      · refine cx_cs1 8 0 0 (by decide) (c_Re_canMove (dd := 5) (b := true) (cn := cn) (ro := ro) (rw := rw) hW1 k36 h33 (fun e he => ⟨(hc e he).1, (hc e he).2, by have := (hbd e he).1; omega, (hbd e he).2⟩) g2 ⟨fun _ => can, fun _ => rfl⟩) fun r_ w2 h2 => ?_
        obtain ⟨rfl, rfl⟩ := h2
        obtain ⟨k, hk1⟩ : ∃ k, mv g - m g = k + 1 := ⟨mv g - m g - 1, by omega⟩
        have m1 : nI (mv g - m g) - 1 = nI k := by rw [hk1]; exact nI_pred _
        simp (decide := true) only [BmRe_makeMoves, k36, h38, vg, tg, m1, nI_clamp (n := g) (by omega), EV, EW, CT, ev_o, ev_is, ev_gd, List.length_cons, List.length_nil, Nat.reduceLT, Nat.reduceAdd, Nat.reduceEqDiff, Nat.reduceLeDiff, Int32.reduceLT, Int32.reduceLE, reduceIte, true_and, and_true, true_or, or_true, not_true_eq_false, not_false_eq_true, false_imp_iff, true_imp_iff, implies_true]
        refine cx_cs1 8 0 0 (by decide) (c_Re_moveAt (cn := cn) (ro := ro) (hW1.of fun k z => by simp (disch := omega) only [cx_up, if_neg]) (by simp only [cx_up, Nat.reduceEqDiff, reduceIte]; exact k36) (by simp only [cx_up, Nat.reduceEqDiff, reduceIte]; exact h33) (by simp only [cx_up, Nat.reduceEqDiff, reduceIte]; exact h34) hc g2 hbd can) fun r_ w3 h3 => ?_
        obtain ⟨rfl, ct3, rw3, a33, a34, ak, ac⟩ := h3
        simp (decide := true) only [BmRe_makeMoves, nI_1, EV, EW, CT, ev_o, ev_is, ev_gd, List.length_cons, List.length_nil, Nat.reduceLT, Nat.reduceAdd, Nat.reduceEqDiff, Nat.reduceLeDiff, Int32.reduceLT, Int32.reduceLE, reduceIte, true_and, and_true, true_or, or_true, not_true_eq_false, not_false_eq_true, false_imp_iff, true_imp_iff, implies_true]
        have hm3 : ∀ u, incM m g u ≤ mv u := fun u => by
          by_cases e : u = g
          · rw [e, incM_s]; omega
          · rw [incM_n m e]; exact hm u
        refine ih (i + 1) w3 (upd tr g (nI k)) ct3 rw3 (incM m g) _ _ 1 _ (by omega) ((ak 38 (by decide)).trans (by simp only [cx_up, Nat.reduceEqDiff, reduceIte])) a33 a34 (fun k z => (ak k ⟨z.1, z.2.1⟩).trans (by rw [← hk k z]; simp (disch := omega) only [cx_up, if_neg])) hm3 (fun u hu => ?_) (move_sm g2 (hgd g g2).2.2.1 (fun e he => q7 g e g2 he) (fun p hp => q8 g p g2 hp) hS can) ac (.inl ⟨rfl, ?_⟩)
        · by_cases e : u = g
          · subst e; rw [pk_us, incM_s]; congr 1; omega
          · rw [pk_un e, incM_n m e]; exact ht u hu
        · rw [sumN_inc (by omega)]
          rcases hI with ⟨_, h⟩ | ⟨_, h, _⟩
          · omega
          · rw [h]; omega
      · refine cx_cs1 8 0 0 (by decide) (c_Re_canMove (dd := 5) (b := false) (cn := cn) (ro := ro) (rw := rw) hW1 k36 h33 (fun e he => ⟨(hc e he).1, (hc e he).2, by have := (hbd e he).1; omega, (hbd e he).2⟩) g2 ⟨fun z => (by cases z), fun z => absurd z can⟩) fun r_ w2 h2 => ?_
        obtain ⟨rfl, rfl⟩ := h2
        simp (decide := true) only [BmRe_makeMoves, Bool.false_eq_true, nI_1, EV, EW, CT, ev_o, ev_is, ev_gd, List.length_cons, List.length_nil, Nat.reduceLT, Nat.reduceAdd, Nat.reduceEqDiff, Nat.reduceLeDiff, Int32.reduceLT, Int32.reduceLE, reduceIte, true_and, and_true, true_or, or_true, not_true_eq_false, not_false_eq_true, false_imp_iff, true_imp_iff, implies_true]
        exact stay (fun z => can z.2) _
    · have T : (nI (mv g - m g) ≤ 0) = True := eq_true (nI_le (b := 0) (by omega) (by decide))
      simp (decide := true) only [BmRe_makeMoves, BSC, k36, k20, k29, h38, E, v1, vg, g4, tg, T, nI_clamp (n := i) (by omega), nI_clamp (n := g) (by omega), nI_1, EV, EW, CT, ev_o, ev_is, ev_gd, List.length_cons, List.length_nil, Nat.reduceLT, Nat.reduceAdd, Nat.reduceEqDiff, Nat.reduceLeDiff, Int32.reduceLT, Int32.reduceLE, reduceIte, true_and, and_true, true_or, or_true, not_true_eq_false, not_false_eq_true, false_imp_iff, true_imp_iff, implies_true]
      exact stay (fun z => lt0 z.1) _
set_option maxHeartbeats 16000000 in
theorem mm_out {w : cx_W} {n : Nat} {gt : Nat → Prop} {pl F S L B tbl tf mv : Nat → Nat} {fo oc : Nat} {gs ch pn tb sr fg : Nat → Int32} {y0 y1 : Int32} (hW : MvW w n gt pl F fo oc S tbl gs ch pn tb sr fg) (hH : MvH n gt pl F S L B tf mv fo oc) (h36 : w 36 = oRe y0 y1) :
    ∀ (r rd : Nat) (w1 : cx_W) (tr ct : Nat → Int32) (rw : Nat → Int64) (m cn ro : Nat → Nat) (mo : Int32) (l3 l4 : Option Value), rd + r = 2304 → w1 38 = ai 48 tr → w1 33 = ai 196 ct → w1 34 = al 196 rw → (∀ k, ¬ k = 33 ∧ ¬ k = 34 ∧ ¬ k = 38 → w1 k = w k) → (∀ u, m u ≤ mv u) → (∀ u, gt u → tr u = nI (mv u - m u)) → SM fo oc pl F S L B tbl tf m cn ro → (∀ e, e < fo + oc → ct e = nI (cn e) ∧ rw e = lN (ro e)) → ((mo = 1 ∧ rd ≤ sumN m 48) ∨ (mo = 0 ∧ ∀ u, m u = mv u)) →
      cx_OK none mRe_makeMoves 9 0 0 (fun r_ w2 _ => r_ = none ∧ (∃ tr ct rw cn ro, w2 38 = ai 48 tr ∧ w2 33 = ai 196 ct ∧ w2 34 = al 196 rw ∧ SM fo oc pl F S L B tbl tf mv cn ro ∧ ∀ e, e < fo + oc → ct e = nI (cn e) ∧ rw e = lN (ro e)) ∧ ∀ k, ¬ k = 33 ∧ ¬ k = 34 ∧ ¬ k = 38 → w2 k = w k) 19 [some (.ref 36), some (.int mo), some (.int (nI rd)), l3, l4] [] w1 (87, 0, 0) := by
  have hH' := hH
  obtain ⟨q1, q2, q3, q4, q5, q6, q7, q8, q9⟩ := hH
  intro r
  induction r with
  | zero =>
    intro rd w1 tr ct rw m cn ro mo l3 l4 hr h38 h33 h34 hk hm ht hS hc hI
    have e : rd = 2304 := by omega
    subst e
    have fin : ∀ u, m u = mv u := by
      rcases hI with ⟨_, h⟩ | h
      · have := sumN_le (f := m) (g := mv) (n := 48) fun u _ => hm u
        omega
      · exact h.2
    have em : m = mv := funext fin
    subst em
    have E : ((2304 : Int32) ≤ nI 2304) = True := eq_true (by decide)
    refine cx_run 100 mRe_makeMoves_mo ?_
    simp (decide := true) only [BmRe_makeMoves, E, EV, EW, CT, ev_o, ev_is, ev_gd, List.length_cons, List.length_nil, Nat.reduceLT, Nat.reduceAdd, Nat.reduceEqDiff, Nat.reduceLeDiff, Int32.reduceLT, Int32.reduceLE, reduceIte, true_and, and_true, true_or, or_true, not_true_eq_false, not_false_eq_true, false_imp_iff, true_imp_iff, implies_true]
    exact ⟨⟨tr, ct, rw, cn, ro, h38, h33, h34, hS, hc⟩, hk⟩
  | succ r ih =>
    intro rd w1 tr ct rw m cn ro mo l3 l4 hr h38 h33 h34 hk hm ht hS hc hI
    have E : ((2304 : Int32) ≤ nI rd) = False := (lek (a := rd) (c := 2304) (x := 2304) rfl (by omega) (by decide)).trans (eq_false (by omega))
    refine cx_run 100 mRe_makeMoves_mo ?_
    rcases hI with ⟨m1, h⟩ | ⟨m0, h⟩
    · subst m1
      simp (decide := true) only [BmRe_makeMoves, E, EV, EW, CT, ev_o, ev_is, ev_gd, List.length_cons, List.length_nil, Nat.reduceLT, Nat.reduceAdd, Nat.reduceEqDiff, Nat.reduceLeDiff, Int32.reduceLT, Int32.reduceLE, reduceIte, true_and, and_true, true_or, or_true, not_true_eq_false, not_false_eq_true, false_imp_iff, true_imp_iff, implies_true]
      exact mm_in (w := w) (m0 := m) hW hH' h36 (fun w2 tr2 ct2 rw2 m2 cn2 ro2 mo2 l3 l4 a b c d e f g h2 i => ih (rd + 1) w2 tr2 ct2 rw2 m2 cn2 ro2 mo2 l3 l4 (by omega) a b c d e f g h2 (i.imp (fun z => ⟨z.1, by omega⟩) id)) (rt_cnt gt n) 0 w1 tr ct rw m cn ro 0 _ (by omega) h38 h33 h34 hk hm ht hS hc (.inr ⟨rfl, rfl, fun g _ z => by omega⟩)
    · subst m0
      have em : m = mv := funext h
      subst em
      simp (decide := true) only [BmRe_makeMoves, E, EV, EW, CT, ev_o, ev_is, ev_gd, List.length_cons, List.length_nil, Nat.reduceLT, Nat.reduceAdd, Nat.reduceEqDiff, Nat.reduceLeDiff, Int32.reduceLT, Int32.reduceLE, reduceIte, true_and, and_true, true_or, or_true, not_true_eq_false, not_false_eq_true, false_imp_iff, true_imp_iff, implies_true]
      exact ⟨⟨tr, ct, rw, cn, ro, h38, h33, h34, hS, hc⟩, hk⟩
set_option maxHeartbeats 8000000 in
theorem c_Re_makeMoves {w : cx_W} {n : Nat} {gt : Nat → Prop} {pl F S L B tbl tf mv : Nat → Nat} {fo oc : Nat} {gs ch pn tb sr fg mr tr0 ct : Nat → Int32} {rw : Nat → Int64} {y0 y1 : Int32} (hW : MvW w n gt pl F fo oc S tbl gs ch pn tb sr fg) (hH : MvH n gt pl F S L B tf mv fo oc) (h36 : w 36 = oRe y0 y1) (h37 : w 37 = ai 48 mr) (hmr : ∀ j, j < 48 → mr j = nI (mv j)) (h38 : w 38 = ai 48 tr0) (h33 : w 33 = ai 196 ct) (h34 : w 34 = al 196 rw) (hc : ∀ e, e < fo + oc → ct e = nI (L e) ∧ rw e = lN (B e)) :
    cx_MC mRe_makeMoves 9 0 0 [.ref 36] w 87 (fun r_ w2 => r_ = none ∧ (∃ tr ct rw cn ro, w2 38 = ai 48 tr ∧ w2 33 = ai 196 ct ∧ w2 34 = al 196 rw ∧ SM fo oc pl F S L B tbl tf mv cn ro ∧ ∀ e, e < fo + oc → ct e = nI (cn e) ∧ rw e = lN (ro e)) ∧ ∀ k, ¬ k = 33 ∧ ¬ k = 34 ∧ ¬ k = 38 → w2 k = w k) := by
  have hn := hW.1.1
  refine cx_met 60 mRe_makeMoves_ok rfl ?_
  show cx_vc 60 none mRe_makeMoves 9 0 0 _ _ 0 [some (.ref 36), none, none, none, none] [] w (87, 0, 0)
  simp (decide := true) only [BmRe_makeMoves, h36, h37, h38, Int32.reduceToNatClampNeg, EV, EW, CT, ev_o, ev_is, ev_gd, List.length_cons, List.length_nil, Nat.reduceLT, Nat.reduceAdd, Nat.reduceEqDiff, Nat.reduceLeDiff, Int32.reduceLT, Int32.reduceLE, reduceIte, true_and, and_true, true_or, or_true, not_true_eq_false, not_false_eq_true, false_imp_iff, true_imp_iff, implies_true]
  refine mm_out (w := w) hW hH h36 2304 0 _ (va_cpy mr tr0 0 0 48) ct rw (fun _ => 0) L B 1 none none (by omega) (by simp only [cx_up, Nat.reduceEqDiff, reduceIte]) (by simp only [cx_up, Nat.reduceEqDiff, reduceIte]; exact h33) (by simp only [cx_up, Nat.reduceEqDiff, reduceIte]; exact h34) (fun k z => by simp (disch := omega) only [cx_up, if_neg]) (fun u => Nat.zero_le _) (fun u hu => ?_) (sm_start fun e he => (hH.2.2.2.2.1 e he).2) hc (.inl ⟨rfl, Nat.zero_le _⟩)
  have := hH.1 u hu
  rw [pk_cpy_in (by omega) (by omega), show 0 + (u - 0) = u by omega, hmr u (by omega), Nat.sub_zero]
