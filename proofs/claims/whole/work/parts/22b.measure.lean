/-! The longest tails: the given side. Own work. -/
theorem GtR.at {gs : Nat → Int32} {gt : Nat → Prop} {n i : Nat} (h : GtR gs gt n) (hi : i < rt_cnt gt n) : ∃ g, g < n ∧ gt g ∧ rt_cnt gt g = i ∧ gs i = nI g := by
  have ⟨g, a, b, c⟩ := rt_cnt_ex hi
  exact ⟨g, a, b, c, by rw [← c]; exact h g a b⟩
set_option maxHeartbeats 8000000 in
theorem ms_loop3 {w : cx_W} {n : Nat} {gt : Nat → Prop} {pl : Nat → Nat} {s lt : Nat → Nat → Nat} {F : Nat → Nat} {fo oc : Nat} {d t : Nat → Nat} {gs ch dr gm sr tg ct tl : Nat → Int32} {Q : cx_Q} {y0 y1 : Int32} {dd : Nat} (hW : RtW w n gt pl s lt F fo oc d gs ch dr gm sr tg ct) (h36 : w 36 = oRe y0 y1) (h39 : w 39 = ai 48 tl) (ht : ∀ u, gt u → tl u = nI (t u) ∧ t u ≤ 20000000)
    (hQ : ∀ P : Nat, (∀ u, gt u → t u ≤ P) → ((∃ u, gt u) → ∃ u, gt u ∧ P = t u) → ((¬ ∃ u, gt u) → P = 0) → Q (some (.int (nI P))) w (87, 0, 0)) :
    ∀ (m i : Nat) (P : Nat) (l1 : Option Value), i + m = rt_cnt gt n → P ≤ 20000000 → (∀ u, gt u → rt_cnt gt u < i → t u ≤ P) → (0 < i → ∃ u, gt u ∧ P = t u) → (i = 0 → P = 0) →
    cx_OK none mRe_measure (dd + 3) 0 0 Q 76 [some (.ref 36), l1, some (.int (nI P)), some (.int (nI i))] [] w (87, 0, 0) := by
  obtain ⟨⟨h1, hn, ⟨x13, h13⟩, h16, h20, h24, h28, h29, h30, h31, h32, h33⟩, hB, hG, hfo, hgd, hd, hcov, hcn, hout⟩ := hW
  have hcl := rt_cnt_le gt n
  intro m
  induction m with
  | zero =>
    intro i P l1 hi hP hmx hat h0
    have E := leT (a := rt_cnt gt n) (b := i) (by omega) (by omega)
    refine cx_run 100 mRe_measure_mo ?_
    simp (decide := true) only [BmRe_measure, BSC, h36, h20, E, EV, EW, CT, ev_o, ev_is, ev_gd, List.length_cons, List.length_nil, Nat.reduceLT, Nat.reduceAdd, Nat.reduceEqDiff, Nat.reduceLeDiff, Int32.reduceLT, Int32.reduceLE, reduceIte, true_and, and_true, true_or, or_true, not_true_eq_false, not_false_eq_true, false_imp_iff, true_imp_iff, implies_true]
    refine hQ P (fun u hu => hmx u hu ?_) (fun ⟨u, hu⟩ => hat ?_) (fun hno => h0 ?_)
    · have := rt_cnt_up hu (hgd u hu).1; omega
    · have := rt_cnt_up hu (hgd u hu).1; omega
    · by_cases e : i = 0
      · exact e
      · have ⟨u, hu, _⟩ := hat (by omega); exact absurd ⟨u, hu⟩ hno
  | succ m ih =>
    intro i P l1 hi hP hmx hat h0
    have E := leF (a := rt_cnt gt n) (b := i) (by omega) (by omega)
    have v1 : vp_in (nI i) 48 := nI_in (by omega) (by decide)
    obtain ⟨g, g1, g2, g3, g4⟩ := hG.at (show i < rt_cnt gt n by omega)
    have vg : vp_in (nI g) 48 := nI_in (by omega) (by decide)
    have ⟨t1, t2⟩ := ht g g2
    refine cx_run 100 mRe_measure_mo ?_
    simp (decide := true) only [BmRe_measure, BSC, h36, h20, h29, h39, E, v1, vg, g4, t1, nI_clamp (n := i) (by omega), nI_clamp (n := g) (by omega), nI_1, EV, EW, CT, ev_o, ev_is, ev_gd, List.length_cons, List.length_nil, Nat.reduceLT, Nat.reduceAdd, Nat.reduceEqDiff, Nat.reduceLeDiff, Int32.reduceLT, Int32.reduceLE, reduceIte, true_and, and_true, true_or, or_true, not_true_eq_false, not_false_eq_true, false_imp_iff, true_imp_iff, implies_true]
    have em : (if nI P < nI (t g) then nI (t g) else nI P) = nI (if P < t g then t g else P) := by
      by_cases q : P < t g
      · rw [if_pos q, if_pos (nI_lt q (by omega))]
      · rw [if_neg q, if_neg (Int32.not_lt.mpr (nI_le (by omega) (by omega)))]
    rw [em]
    refine ih (i + 1) _ _ (by omega) (by split <;> omega) (fun u hu hlt => ?_) (fun _ => ?_) (fun h => by omega)
    · by_cases e : rt_cnt gt u = i
      · have := rt_cnt_inj hu g2 (e.trans g3.symm)
        subst this; split <;> omega
      · have := hmx u hu (by omega); split <;> omega
    · by_cases q : P < t g
      · rw [if_pos q]; exact ⟨g, g2, rfl⟩
      · rw [if_neg q]
        by_cases e : i = 0
        · have := h0 e; exact ⟨g, g2, by omega⟩
        · exact hat (by omega)
set_option maxHeartbeats 16000000 in
theorem ms_loop2 {w : cx_W} {n : Nat} {gt : Nat → Prop} {pl : Nat → Nat} {s lt : Nat → Nat → Nat} {F : Nat → Nat} {fo oc : Nat} {d r : Nat → Nat} {gs ch dr gm sr tg ct tr : Nat → Int32} {T : Nat → Int} {Q : cx_Q} {y0 y1 : Int32} (hW : RtW w n gt pl s lt F fo oc d gs ch dr gm sr tg ct) (hH : rt_H (EE gt pl s lt) gt d n) (h36 : w 36 = oRe y0 y1) (h38 : w 38 = ai 48 tr) (htr : ∀ j, j < 48 → tr j = nI (r j) ∧ r j ≤ 200) (hleg : rt_leg (EE gt pl s lt) (fun u => (r u : Int))) (hT : rt_T (EE gt pl s lt) gt d n (fun u => (r u : Int)) T) (hTb : ∀ u, gt u → T u ≤ 20000000)
    (hQ : ∀ (w1 : cx_W) (tl : Nat → Int32) (t : Nat → Nat) (P : Nat), w1 39 = ai 48 tl → (∀ u, gt u → tl u = nI (t u) ∧ (t u : Int) = T u) → (∀ k, ¬ k = 39 → w1 k = w k) → (∀ u, gt u → t u ≤ P) → ((∃ u, gt u) → ∃ u, gt u ∧ P = t u) → ((¬ ∃ u, gt u) → P = 0) → Q (some (.int (nI P))) w1 (87, 0, 0)) :
    ∀ (m rd : Nat) (w1 : cx_W) (tl : Nat → Int32) (t : Nat → Nat) (gw : Int32) (l3 : Option Value), rd + m = 48 → w1 39 = ai 48 tl → (∀ u, gt u → tl u = nI (t u) ∧ (t u : Int) ≤ T u ∧ d u ≤ t u) → (∀ k, ¬ k = 39 → w1 k = w k) → (gw = 0 ∨ gw = 1) → ((gw = 1 ∧ rd ≤ rt_cnt (fun u => gt u → (t u : Int) = T u) n) ∨ ∀ u, gt u → (t u : Int) = T u) →
    cx_OK none mRe_measure 9 0 0 Q 51 [some (.ref 36), some (.int gw), some (.int (nI rd)), l3] [] w1 (87, 0, 0) := by
  have hW' := hW
  obtain ⟨⟨h1, hn, ⟨x13, h13⟩, h16, h20, h24, h28, h29, h30, h31, h32, h33⟩, hB, hG, hfo, hgd, hd, hcov, hcn, hout⟩ := hW
  have hBr : ∀ u, gt u → 0 ≤ ((r u : Nat) : Int) ∧ ((r u : Nat) : Int) ≤ 200 := fun u hu => by have := (htr u (by have := (hgd u hu).1; omega)).2; omega
  have done : ∀ (w1 : cx_W) (tl : Nat → Int32) (t : Nat → Nat) (l1 : Option Value), w1 39 = ai 48 tl → (∀ u, gt u → tl u = nI (t u) ∧ (t u : Int) = T u) → (∀ k, ¬ k = 39 → w1 k = w k) → cx_OK none mRe_measure 9 0 0 Q 76 [some (.ref 36), l1, some (.int (nI 0)), some (.int (nI 0))] [] w1 (87, 0, 0) := by
    intro w1 tl t l1 a b c
    exact ms_loop3 (dd := 6) (t := t) (hW'.of fun k q => c k (by omega)) ((c 36 (by decide)).trans h36) a (fun u hu => ⟨(b u hu).1, by have := (b u hu).2; have := hTb u hu; omega⟩) (fun P p1 p2 p3 => hQ w1 tl t P a b c p1 p2 p3) (rt_cnt gt n) 0 0 l1 (by omega) (by omega) (fun u _ h => by omega) (fun h => by omega) (fun _ => rfl)
  intro m
  induction m with
  | zero =>
    intro rd w1 tl t gw l3 hm h39 ht hk hgw hI
    have e : rd = 48 := by omega
    subst e
    have fin : ∀ u, gt u → (t u : Int) = T u := by
      rcases hI with ⟨_, hc⟩ | h
      · exact fun u hu => rt_cnt_full (p := fun u => gt u → (t u : Int) = T u) (n := n) (by omega) u (hgd u hu).1 hu
      · exact h
    have E : ((48 : Int32) ≤ nI 48) = True := eq_true (by decide)
    refine cx_run 100 mRe_measure_mo ?_
    simp (decide := true) only [BmRe_measure, E, EV, EW, CT, ev_o, ev_is, ev_gd, List.length_cons, List.length_nil, Nat.reduceLT, Nat.reduceAdd, Nat.reduceEqDiff, Nat.reduceLeDiff, Int32.reduceLT, Int32.reduceLE, reduceIte, true_and, and_true, true_or, or_true, not_true_eq_false, not_false_eq_true, false_imp_iff, true_imp_iff, implies_true]
    exact done w1 tl t _ h39 (fun u hu => ⟨(ht u hu).1, fin u hu⟩) hk
  | succ m ih =>
    intro rd w1 tl t gw l3 hm h39 ht hk hgw hI
    have E : ((48 : Int32) ≤ nI rd) = False := (lek (a := rd) (c := 48) (x := 48) rfl (by omega) (by decide)).trans (eq_false (by omega))
    have k36 := (hk 36 (by decide)).trans h36
    refine cx_run 100 mRe_measure_mo ?_
    rcases hgw with g0 | g1
    · subst g0
      have fin : ∀ u, gt u → (t u : Int) = T u := by
        rcases hI with ⟨h, _⟩ | h
        · exact absurd h (by decide)
        · exact h
      simp (decide := true) only [BmRe_measure, E, EV, EW, CT, ev_o, ev_is, ev_gd, List.length_cons, List.length_nil, Nat.reduceLT, Nat.reduceAdd, Nat.reduceEqDiff, Nat.reduceLeDiff, Int32.reduceLT, Int32.reduceLE, reduceIte, true_and, and_true, true_or, or_true, not_true_eq_false, not_false_eq_true, false_imp_iff, true_imp_iff, implies_true]
      exact done w1 tl t _ h39 (fun u hu => ⟨(ht u hu).1, fin u hu⟩) hk
    · subst g1
      simp (decide := true) only [BmRe_measure, k36, E, EV, EW, CT, ev_o, ev_is, ev_gd, List.length_cons, List.length_nil, Nat.reduceLT, Nat.reduceAdd, Nat.reduceEqDiff, Nat.reduceLeDiff, Int32.reduceLT, Int32.reduceLE, reduceIte, true_and, and_true, true_or, or_true, not_true_eq_false, not_false_eq_true, false_imp_iff, true_imp_iff, implies_true]
      refine cx_cs1 8 0 0 (by decide) (c_Re_growTails (dd := 6) (r := r) (t := t) (T := T) (hW'.of fun k q => hk k (by omega)) k36 ((hk 38 (by decide)).trans h38) htr (fun g p hg hp hgs hz => ?_) hTb h39 (fun u hu => ⟨(ht u hu).1, (ht u hu).2.1⟩)) fun r_ w2 h2 => ?_
      · exact rt_T_edge hH hT (show EE gt pl s lt (s g p) g (lt g p) from ⟨hg, p, hp, rfl, hgs, rfl⟩) (by show ((r g : Nat) : Int) = ((r (s g p) : Nat) : Int) + (lt g p : Int); omega)
      · obtain ⟨tl2, t2, gw2, rfl, a39, at_, agw, ak, aI⟩ := h2
        simp (decide := true) only [BmRe_measure, nI_1, EV, EW, CT, ev_o, ev_is, ev_gd, List.length_cons, List.length_nil, Nat.reduceLT, Nat.reduceAdd, Nat.reduceEqDiff, Nat.reduceLeDiff, Int32.reduceLT, Int32.reduceLE, reduceIte, true_and, and_true, true_or, or_true, not_true_eq_false, not_false_eq_true, false_imp_iff, true_imp_iff, implies_true]
        have hedge : ∀ u v w_, EE gt pl s lt u v w_ → ((r v : Nat) : Int) = ((r u : Nat) : Int) + (w_ : Int) → ((d u : Nat) : Int) + ((t v : Nat) : Int) ≤ ((t2 u : Nat) : Int) := by
          rintro u v w_ ⟨hv, p, hp, rfl, hu, rfl⟩ hz
          have := aI.2.1 v p hv hp (hcn v p hv hp).1 hu (by omega)
          omega
        have hmon : ∀ u, gt u → ((d u : Nat) : Int) ≤ (t u : Int) ∧ (t u : Int) ≤ (t2 u : Int) ∧ (t2 u : Int) ≤ T u := fun u hu => by
          have := (ht u hu).2.2; have := aI.1 u hu; have := (at_ u hu).2; omega
        refine ih (rd + 1) w2 tl2 t2 gw2 _ (by omega) a39 (fun u hu => ⟨(at_ u hu).1, (at_ u hu).2, by have := hmon u hu; omega⟩) (fun k q => (ak k q).trans (hk k q)) agw ?_
        by_cases fin : ∀ u, gt u → (t u : Int) = T u
        · exact .inr fun u hu => by have := fin u hu; have := hmon u hu; omega
        · have ⟨u0, hu0⟩ := Classical.not_forall.mp fin
          have ⟨gu0, nu0⟩ := Classical.not_imp.mp hu0
          have hc : rd ≤ rt_cnt (fun u => gt u → (t u : Int) = T u) n := by
            rcases hI with ⟨_, h⟩ | h
            · exact h
            · exact absurd h fin
          rcases agw with g0 | g1
          · subst g0
            have e2 := aI.2.2 (by decide)
            exact absurd (rt_T_closed (t := fun u => (t u : Int)) hH hleg hBr hT (fun u hu => by have := hmon u hu; omega) (fun u v w_ he hz => by
              have h3 := hedge u v w_ he hz
              have h4 := e2 u (hH.2.1 u v w_ he).1
              omega)) fin
          · exact .inl ⟨g1, rt_T_step (t := fun u => (t u : Int)) (t' := fun u => (t2 u : Int)) hH hleg hBr hT hmon hedge hc ⟨u0, gu0, nu0⟩⟩
set_option maxHeartbeats 8000000 in
theorem ms_loop1 {w : cx_W} {n : Nat} {gt : Nat → Prop} {pl : Nat → Nat} {s lt : Nat → Nat → Nat} {F : Nat → Nat} {fo oc : Nat} {d : Nat → Nat} {gs ch dr gm sr tg ct : Nat → Int32} {Q : cx_Q} {y0 y1 : Int32} {dd : Nat} (hW : RtW w n gt pl s lt F fo oc d gs ch dr gm sr tg ct) (h36 : w 36 = oRe y0 y1)
    (hQ : ∀ (w1 : cx_W) (tl : Nat → Int32) (l3 : Option Value), w1 39 = ai 48 tl → (∀ u, gt u → tl u = nI (d u)) → (∀ k, ¬ k = 39 → w1 k = w k) → cx_OK none mRe_measure (dd + 3) 0 0 Q 51 [some (.ref 36), some (.int 1), some (.int (nI 0)), l3] [] w1 (87, 0, 0)) :
    ∀ (m i : Nat) (w1 : cx_W) (tl : Nat → Int32) (l2 l3 : Option Value), i + m = rt_cnt gt n → w1 39 = ai 48 tl → (∀ u, gt u → rt_cnt gt u < i → tl u = nI (d u)) → (∀ k, ¬ k = 39 → w1 k = w k) →
    cx_OK none mRe_measure (dd + 3) 0 0 Q 2 [some (.ref 36), some (.int (nI i)), l2, l3] [] w1 (87, 0, 0) := by
  obtain ⟨⟨h1, hn, ⟨x13, h13⟩, h16, h20, h24, h28, h29, h30, h31, h32, h33⟩, hB, hG, hfo, hgd, hd, hcov, hcn, hout⟩ := hW
  have hcl := rt_cnt_le gt n
  intro m
  induction m with
  | zero =>
    intro i w1 tl l2 l3 hi h39 ht hk
    have E := leT (a := rt_cnt gt n) (b := i) (by omega) (by omega)
    have k36 := (hk 36 (by decide)).trans h36
    have k20 := (hk 20 (by decide)).trans h20
    refine cx_run 100 mRe_measure_mo ?_
    simp (decide := true) only [BmRe_measure, BSC, k36, k20, E, EV, EW, CT, ev_o, ev_is, ev_gd, List.length_cons, List.length_nil, Nat.reduceLT, Nat.reduceAdd, Nat.reduceEqDiff, Nat.reduceLeDiff, Int32.reduceLT, Int32.reduceLE, reduceIte, true_and, and_true, true_or, or_true, not_true_eq_false, not_false_eq_true, false_imp_iff, true_imp_iff, implies_true]
    exact hQ w1 tl _ h39 (fun u hu => ht u hu (by have := rt_cnt_up hu (hgd u hu).1; omega)) hk
  | succ m ih =>
    intro i w1 tl l2 l3 hi h39 ht hk
    have E := leF (a := rt_cnt gt n) (b := i) (by omega) (by omega)
    have k36 := (hk 36 (by decide)).trans h36
    have k20 := (hk 20 (by decide)).trans h20
    have k29 := (hk 29 (by decide)).trans h29
    have k24 := (hk 24 (by decide)).trans h24
    have k13 := (hk 13 (by decide)).trans h13
    have k16 := (hk 16 (by decide)).trans h16
    have v1 : vp_in (nI i) 48 := nI_in (by omega) (by decide)
    obtain ⟨g, g1, g2, g3, g4⟩ := hG.at (show i < rt_cnt gt n by omega)
    have ⟨_, c, c1, c2, c3⟩ := hgd g g2
    have vg : vp_in (nI g) 48 := nI_in (by omega) (by decide)
    have vc : vp_in (nI c) 8 := nI_in c1 (by decide)
    refine cx_run 100 mRe_measure_mo ?_
    simp (decide := true) only [BmRe_measure, BSC, k36, k20, k29, k24, k13, k16, h39, E, v1, vg, vc, g4, c2, c3, nI_clamp (n := i) (by omega), nI_clamp (n := g) (by omega), nI_clamp (n := c) (by omega), nI_1, EV, EW, CT, ev_o, ev_is, ev_gd, List.length_cons, List.length_nil, Nat.reduceLT, Nat.reduceAdd, Nat.reduceEqDiff, Nat.reduceLeDiff, Int32.reduceLT, Int32.reduceLE, reduceIte, true_and, and_true, true_or, or_true, not_true_eq_false, not_false_eq_true, false_imp_iff, true_imp_iff, implies_true]
    refine ih (i + 1) _ (upd tl g (nI (d g))) _ _ (by omega) (by simp only [cx_up, Nat.reduceEqDiff, reduceIte]) (fun u hu hlt => ?_) (fun k q => by rw [← hk k q]; simp (disch := omega) only [cx_up, if_neg])
    by_cases e : u = g
    · rw [e, pk_us]
    · rw [pk_un e]
      refine ht u hu ?_
      by_cases e2 : rt_cnt gt u = i
      · exact absurd (rt_cnt_inj hu g2 (e2.trans g3.symm)) e
      · omega
set_option maxHeartbeats 8000000 in
theorem c_Re_measure {w : cx_W} {n : Nat} {gt : Nat → Prop} {pl : Nat → Nat} {s lt : Nat → Nat → Nat} {F : Nat → Nat} {fo oc : Nat} {d r : Nat → Nat} {gs ch dr gm sr tg ct tr tl0 : Nat → Int32} {T : Nat → Int} {y0 y1 : Int32} (hW : RtW w n gt pl s lt F fo oc d gs ch dr gm sr tg ct) (hH : rt_H (EE gt pl s lt) gt d n) (h36 : w 36 = oRe y0 y1) (h38 : w 38 = ai 48 tr) (h39 : w 39 = ai 48 tl0) (htr : ∀ j, j < 48 → tr j = nI (r j) ∧ r j ≤ 200) (hleg : rt_leg (EE gt pl s lt) (fun u => (r u : Int))) (hT : rt_T (EE gt pl s lt) gt d n (fun u => (r u : Int)) T) (hTb : ∀ u, gt u → T u ≤ 20000000) :
    cx_MC mRe_measure 9 0 0 [.ref 36] w 87 (fun r_ w1 => ∃ (tl : Nat → Int32) (t : Nat → Nat) (P : Nat), r_ = some (.int (nI P)) ∧ w1 39 = ai 48 tl ∧ (∀ u, gt u → tl u = nI (t u) ∧ (t u : Int) = T u) ∧ (∀ k, ¬ k = 39 → w1 k = w k) ∧ (∀ u, gt u → t u ≤ P) ∧ ((∃ u, gt u) → ∃ u, gt u ∧ P = t u) ∧ ((¬ ∃ u, gt u) → P = 0)) := by
  refine cx_met 60 mRe_measure_ok rfl ?_
  show cx_vc 60 none mRe_measure 9 0 0 _ _ 0 [some (.ref 36), none, none, none] [] w (87, 0, 0)
  simp only [BmRe_measure, EV, EW, CT, ev_o, ev_is, ev_gd, List.length_cons, List.length_nil, Nat.reduceLT, Nat.reduceAdd, Nat.reduceEqDiff, Nat.reduceLeDiff, Int32.reduceLT, Int32.reduceLE, reduceIte, true_and, and_true, true_or, or_true, not_true_eq_false, not_false_eq_true, false_imp_iff, true_imp_iff, implies_true]
  refine ms_loop1 (dd := 6) hW h36 (fun w1 tl l3 a b c => ?_) (rt_cnt gt n) 0 w tl0 none none (by omega) h39 (fun u _ h => by omega) (fun _ _ => rfl)
  refine ms_loop2 (w := w) (r := r) (T := T) hW hH h36 h38 htr hleg hT hTb (fun w2 tl2 t P p1 p2 p3 p4 p5 p6 => ⟨tl2, t, P, rfl, p1, p2, p3, p4, p5, p6⟩) 48 0 w1 tl d 1 l3 (by omega) a (fun u hu => ⟨b u hu, (hT u hu).2.1, Nat.le_refl _⟩) c (.inr rfl) (.inl ⟨rfl, Nat.zero_le _⟩)
