/-! Measuring: the reference's side, the period. Own work. -/
def PbI (gt : Nat → Prop) (d : Nat → Nat) (F S : Nat → Nat → Nat) (P i : Nat) : Prop :=
  (∀ u v, gt u → gt v → 48 * u + v < i → F u v = 0 → S u v + d v ≤ P) ∧ (P = 0 ∨ ∃ u v, gt u ∧ gt v ∧ F u v = 0 ∧ P = S u v + d v)
theorem PbI_skip {gt : Nat → Prop} {d : Nat → Nat} {F S : Nat → Nat → Nat} {P i : Nat} (hg : ∀ g, gt g → g < 48) (h : PbI gt d F S P i) (hno : ¬ (gt (i / 48) ∧ gt (i % 48) ∧ F (i / 48) (i % 48) = 0)) : PbI gt d F S P (i + 1) := by
  refine ⟨fun u v gu gv hi hf => ?_, h.2⟩
  by_cases e : 48 * u + v = i
  · have hv := hg v gv
    have e1 : i / 48 = u := by omega
    have e2 : i % 48 = v := by omega
    rw [e1, e2] at hno
    exact absurd ⟨gu, gv, hf⟩ hno
  · exact h.1 u v gu gv (by omega) hf
theorem PbI_put {gt : Nat → Prop} {d : Nat → Nat} {F S : Nat → Nat → Nat} {P i : Nat} (hg : ∀ g, gt g → g < 48) (h : PbI gt d F S P i) (a : gt (i / 48)) (b : gt (i % 48)) (c : F (i / 48) (i % 48) = 0) (P' : Nat) (hP : P' = max P (S (i / 48) (i % 48) + d (i % 48))) : PbI gt d F S P' (i + 1) := by
  refine ⟨fun u v gu gv hi hf => ?_, ?_⟩
  · by_cases e : 48 * u + v = i
    · have hv := hg v gv
      have e1 : i / 48 = u := by omega
      have e2 : i % 48 = v := by omega
      rw [e1, e2] at hP
      omega
    · have := h.1 u v gu gv (by omega) hf
      omega
  · by_cases q : P ≤ S (i / 48) (i % 48) + d (i % 48)
    · exact .inr ⟨i / 48, i % 48, a, b, c, by omega⟩
    · rcases h.2 with z | ⟨u, v, r⟩
      · omega
      · exact .inr ⟨u, v, r.1, r.2.1, r.2.2.1, by omega⟩
set_option maxHeartbeats 16000000 in
theorem mme_last {w : cx_W} {n : Nat} {gt : Nat → Prop} {q pl d : Nat → Nat} {s lt st : Nat → Nat → Nat} {oc : Nat} {os ol ob : Nat → Nat} {pa dl ch gr so la_ fr sl : Nat → Int32} {sr : Nat → Int64} {x0 x1 x2 x4 x5 x6 x7 x9 : Int32} {F S : Nat → Nat → Nat} {Q : cx_Q} (hW : RmW w n gt q pl d s lt st oc os ol ob pa dl ch gr so la_ sr) (h79 : w 79 = ai 2304 fr) (h80 : w 80 = ai 2304 sl) (hM : MxR n fr sl F S)
    (hQ : ∀ (w1 : cx_W) (P : Nat), w1 45 = oM x0 x1 x2 (nI n) x4 x5 x6 x7 (nI P) x9 → (∀ k, ¬ k = 45 → w1 k = w k) → PbI gt d F S P 2304 → P ≤ 30001000 → Q none w1 (87, 0, 0)) :
    ∀ (m i : Nat) (w1 : cx_W) (P : Nat) (l2 l3 : Option Value), i + m = 2304 → w1 45 = oM x0 x1 x2 (nI n) x4 x5 x6 x7 (nI P) x9 → (∀ k, ¬ k = 45 → w1 k = w k) → PbI gt d F S P i → P ≤ 30001000 →
    cx_OK none mM_measure 10 0 0 Q 264 [some (.ref 45), some (.int (nI i)), l2, l3] [] w1 (87, 0, 0) := by
  obtain ⟨⟨hn, hoc, h61, h63, h68, h70, h73, h74, h75⟩, hB, hgd, hd, hcn, hno, hon, hoo⟩ := hW
  have hg48 : ∀ g, gt g → g < 48 := fun g hg => by have := (hgd g hg).1; omega
  intro m
  induction m with
  | zero =>
    intro i w1 P l2 l3 hi k45 hk hI hP
    have E : ((2304 : Int32) ≤ nI i) = True := (lek (a := i) (c := 2304) (x := 2304) rfl (by omega) (by decide)).trans (eq_true (by omega))
    have e : i = 2304 := by omega
    subst e
    refine cx_run 140 mM_measure_mo ?_
    simp (decide := true) only [BmM_measure, BSM, E, EV, EW, CT, ev_o, ev_is, ev_gd, List.length_cons, List.length_nil, Nat.reduceLT, Nat.reduceAdd, Nat.reduceEqDiff, Nat.reduceLeDiff, Int32.reduceLT, Int32.reduceLE, reduceIte, true_and, and_true, true_or, or_true, not_true_eq_false, not_false_eq_true, false_imp_iff, true_imp_iff, implies_true]
    exact hQ w1 P k45 hk hI hP
  | succ m ih =>
    intro i w1 P l2 l3 hi k45 hk hI hP
    have E : ((2304 : Int32) ≤ nI i) = False := (lek (a := i) (c := 2304) (x := 2304) rfl (by omega) (by decide)).trans (eq_false (by omega))
    have k63 := (hk 63 (by decide)).trans h63
    have k68 := (hk 68 (by decide)).trans h68
    have k70 := (hk 70 (by decide)).trans h70
    have k79 := (hk 79 (by decide)).trans h79
    have k80 := (hk 80 (by decide)).trans h80
    have v1 : vp_in (nI i) 2304 := nI_in (by omega) (by decide)
    have v2 : vp_in (nI (i / 48)) 48 := nI_in (by omega) (by decide)
    have v3 : vp_in (nI (i % 48)) 48 := nI_in (by omega) (by decide)
    have R := remQ (a := i) (c := 48) (x := 48) rfl (by omega) (by decide)
    have D := divK (a := i) (c := 48) (x := 48) rfl (by omega) (by decide)
    have skip : ¬ (gt (i / 48) ∧ gt (i % 48) ∧ F (i / 48) (i % 48) = 0) → ∀ l2 l3, cx_OK none mM_measure 10 0 0 Q 264 [some (.ref 45), some (.int (nI (i + 1))), l2, l3] [] w1 (87, 0, 0) := fun h l2 l3 => ih (i + 1) w1 P l2 l3 (by omega) k45 hk (PbI_skip hg48 hI h) hP
    refine cx_run 140 mM_measure_mo ?_
    by_cases a : gt (i / 48)
    · have B1 : gr (i / 48) = 1 := (hB _ (by omega)).1 a
      by_cases b : gt (i % 48)
      · have B2 : gr (i % 48) = 1 := (hB _ (by omega)).1 b
        have an := (hgd _ a).1
        obtain ⟨bn, _, _, c, cc1, cc2, cc3, cc4⟩ := hgd _ b
        have vc : vp_in (nI c) 8 := nI_in cc1 (by decide)
        have hm := hM (i / 48) (i % 48) an bn
        rw [Nat.div_add_mod] at hm
        obtain ⟨m1, m2, m3, m4⟩ := hm
        by_cases z : F (i / 48) (i % 48) = 0
        · have Z : (nI (F (i / 48) (i % 48)) = 0) = True := eq_true (by rw [z]; rfl)
          have hds := hd (i % 48)
          by_cases g : S (i / 48) (i % 48) + d (i % 48) ≤ P
          · have T := leT (a := S (i / 48) (i % 48) + d (i % 48)) (b := P) g (by omega)
            simp (decide := true) only [BmM_measure, BSM, k45, k63, k68, k70, k79, k80, E, v1, v2, v3, vc, R, D, B1, B2, Z, T, m1, m2, cc2, cc4, nI_add, nI_clamp (n := i) (by omega), nI_clamp (n := i / 48) (by omega), nI_clamp (n := i % 48) (by omega), nI_clamp (n := c) (by omega), nI_1, EV, EW, CT, ev_o, ev_is, ev_gd, List.length_cons, List.length_nil, Nat.reduceLT, Nat.reduceAdd, Nat.reduceEqDiff, Nat.reduceLeDiff, Int32.reduceLT, Int32.reduceLE, reduceIte, true_and, and_true, true_or, or_true, not_true_eq_false, not_false_eq_true, false_imp_iff, true_imp_iff, implies_true]
            refine ih (i + 1) _ P _ _ (by omega) (by simp only [cx_up, Nat.reduceEqDiff, reduceIte]) (fun k z => by rw [← hk k z]; simp (disch := omega) only [cx_up, if_neg]) (PbI_put hg48 hI a b z P (by omega)) hP
          · have T := leF (a := S (i / 48) (i % 48) + d (i % 48)) (b := P) (by omega) (by omega)
            simp (decide := true) only [BmM_measure, BSM, k45, k63, k68, k70, k79, k80, E, v1, v2, v3, vc, R, D, B1, B2, Z, T, m1, m2, cc2, cc4, nI_add, nI_clamp (n := i) (by omega), nI_clamp (n := i / 48) (by omega), nI_clamp (n := i % 48) (by omega), nI_clamp (n := c) (by omega), nI_1, EV, EW, CT, ev_o, ev_is, ev_gd, List.length_cons, List.length_nil, Nat.reduceLT, Nat.reduceAdd, Nat.reduceEqDiff, Nat.reduceLeDiff, Int32.reduceLT, Int32.reduceLE, reduceIte, true_and, and_true, true_or, or_true, not_true_eq_false, not_false_eq_true, false_imp_iff, true_imp_iff, implies_true]
            refine ih (i + 1) _ (S (i / 48) (i % 48) + d (i % 48)) _ _ (by omega) (by simp only [cx_up, Nat.reduceEqDiff, reduceIte]) (fun k z => by rw [← hk k z]; simp (disch := omega) only [cx_up, if_neg]) (PbI_put hg48 hI a b z _ (by omega)) (by omega)
        · have Z : (nI (F (i / 48) (i % 48)) = 0) = False := (z0 (by omega)).trans (eq_false z)
          simp (decide := true) only [BmM_measure, BSM, k45, k70, k79, E, v1, v2, v3, R, D, B1, B2, Z, m1, nI_clamp (n := i) (by omega), nI_clamp (n := i / 48) (by omega), nI_clamp (n := i % 48) (by omega), nI_1, EV, EW, CT, ev_o, ev_is, ev_gd, List.length_cons, List.length_nil, Nat.reduceLT, Nat.reduceAdd, Nat.reduceEqDiff, Nat.reduceLeDiff, Int32.reduceLT, Int32.reduceLE, reduceIte, true_and, and_true, true_or, or_true, not_true_eq_false, not_false_eq_true, false_imp_iff, true_imp_iff, implies_true]
          exact skip (fun y => z y.2.2) _ _
      · have B2 : gr (i % 48) = 0 := (hB _ (by omega)).2 b
        simp (decide := true) only [BmM_measure, BSM, k45, k70, E, v1, v2, v3, R, D, B1, B2, nI_clamp (n := i) (by omega), nI_clamp (n := i / 48) (by omega), nI_clamp (n := i % 48) (by omega), nI_1, EV, EW, CT, ev_o, ev_is, ev_gd, List.length_cons, List.length_nil, Nat.reduceLT, Nat.reduceAdd, Nat.reduceEqDiff, Nat.reduceLeDiff, Int32.reduceLT, Int32.reduceLE, reduceIte, true_and, and_true, true_or, or_true, not_true_eq_false, not_false_eq_true, false_imp_iff, true_imp_iff, implies_true]
        exact skip (fun y => b y.2.1) _ _
    · have B1 : gr (i / 48) = 0 := (hB _ (by omega)).2 a
      simp (decide := true) only [BmM_measure, BSM, k45, k70, E, v1, v2, D, B1, nI_clamp (n := i) (by omega), nI_clamp (n := i / 48) (by omega), nI_1, EV, EW, CT, ev_o, ev_is, ev_gd, List.length_cons, List.length_nil, Nat.reduceLT, Nat.reduceAdd, Nat.reduceEqDiff, Nat.reduceLeDiff, Int32.reduceLT, Int32.reduceLE, reduceIte, true_and, and_true, true_or, or_true, not_true_eq_false, not_false_eq_true, false_imp_iff, true_imp_iff, implies_true]
      exact skip (fun y => a y.1) _ _
set_option maxHeartbeats 8000000 in
theorem c_M_measure {w : cx_W} {n : Nat} {gt : Nat → Prop} {q pl d : Nat → Nat} {s lt st : Nat → Nat → Nat} {oc : Nat} {os ol ob : Nat → Nat} {pa dl ch gr so la_ fr0 sl0 : Nat → Int32} {sr : Nat → Int64} {x0 x1 x2 x4 x5 x6 x7 x8 x9 : Int32} (hW : RmW w n gt q pl d s lt st oc os ol ob pa dl ch gr so la_ sr) (hH : rt_H (EE gt pl s lt) gt d n) (h45 : w 45 = oM x0 x1 x2 (nI n) x4 x5 x6 x7 x8 x9) (h79 : w 79 = ai 2304 fr0) (h80 : w 80 = ai 2304 sl0) :
    cx_MC mM_measure 10 0 0 [.ref 45] w 87 (fun r_ w2 => r_ = none ∧ ∃ (fr sl : Nat → Int32) (F S : Nat → Nat → Nat) (P : Nat), w2 79 = ai 2304 fr ∧ w2 80 = ai 2304 sl ∧ MxR n fr sl F S ∧ rt_FW (EE gt pl s lt) d n F S n ∧ w2 45 = oM x0 x1 x2 (nI n) x4 x5 x6 x7 (nI P) x9 ∧ PbI gt d F S P 2304 ∧ P ≤ 30001000 ∧ ∀ k, frM k ∧ ¬ k = 45 → w2 k = w k) := by
  have hW' := hW
  have hpl := pl4 hW
  obtain ⟨⟨hn, hoc, h61, h63, h68, h70, h73, h74, h75⟩, hB, hgd, hd, hcn, hno, hon, hoo⟩ := hW
  refine cx_met 60 mM_measure_ok rfl ?_
  show cx_vc 60 none mM_measure 10 0 0 _ _ 0 [some (.ref 45), none, none, none] [] w (87, 0, 0)
  simp (decide := true) only [BmM_measure, EV, EW, CT, ev_o, ev_is, ev_gd, List.length_cons, List.length_nil, Nat.reduceLT, Nat.reduceAdd, Nat.reduceEqDiff, Nat.reduceLeDiff, Int32.reduceLT, Int32.reduceLE, reduceIte, true_and, and_true, true_or, or_true, not_true_eq_false, not_false_eq_true, false_imp_iff, true_imp_iff, implies_true]
  refine mme_init (w := w) (n := n) hn h45 (fun w1 fr sl l2 l3 a b c e => ?_) 2304 0 w fr0 sl0 _ _ (by omega) h79 h80 (fun _ _ => rfl) (fun j h => by omega)
  refine mme_edges (w := w) hW' h45 (fun w2 fr2 sl2 F S l2 l3 a2 b2 c2 e2 f2 => ?_) 192 0 w1 fr sl _ _ _ _ (by omega) a b c e ⟨fun u v hu hv hne hf => ?_, fun u hu => ⟨if_pos rfl, rfl⟩, fun g p _ _ hi => by omega⟩
  · refine mme_out (w := w) hn h45 h70 hB hH (fun w3 fr3 sl3 F3 S3 l2 l3 a3 b3 c3 e3 f3 => ?_) n 0 w2 fr2 sl2 F S _ _ (by omega) a2 b2 c2 e2 (EdI_fin hH hn hpl f2)
    refine mme_last (w := cx_up w3 45 (oM x0 x1 x2 (nI n) x4 x5 x6 x7 0 x9)) (hW'.of fun k z => ?_) (by simp only [cx_up, Nat.reduceEqDiff, reduceIte]; exact a3) (by simp only [cx_up, Nat.reduceEqDiff, reduceIte]; exact b3) e3 (fun w4 P a4 b4 c4 d4 => ⟨rfl, fr3, sl3, F3, S3, P, ?_, ?_, e3, f3, a4, c4, d4, fun k z => ?_⟩) 2304 0 _ 0 _ _ (by omega) (by simp only [cx_up, Nat.reduceEqDiff, reduceIte]; rfl) (fun _ _ => rfl) ⟨fun u v _ _ h => by omega, .inl rfl⟩ (by omega)
    · rw [← c3 k (by unfold frM; omega)]; simp (disch := omega) only [cx_up, if_neg]
    · rw [b4 79 (by decide)]; simp only [cx_up, Nat.reduceEqDiff, reduceIte]; exact a3
    · rw [b4 80 (by decide)]; simp only [cx_up, Nat.reduceEqDiff, reduceIte]; exact b3
    · rw [b4 k z.2, ← c3 k z.1]; simp (disch := omega) only [cx_up, if_neg]
  · unfold iF at hf
    rw [if_neg hne] at hf
    omega
