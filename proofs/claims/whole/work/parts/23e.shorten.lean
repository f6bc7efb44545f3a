/-! Shortening: the given side. Own work. -/
theorem rt_T_bd {E : Nat → Nat → Nat → Prop} {gt : Nat → Prop} {d : Nat → Nat} {n : Nat} {r : Nat → Nat} {T : Nat → Int} (hH : rt_H E gt d n) (hr : ∀ u, gt u → r u ≤ 200) (hT : rt_T E gt d n (fun u => (r u : Int)) T) : ∀ u, gt u → T u ≤ 20000000 := by
  have ⟨⟨hn, hz, hd, hb, h6⟩, hg, hgn⟩ := hH
  intro u hu
  rcases (hT u hu).1 with h | ⟨m, v, w, dl, h1, h2, h3⟩
  · have := hd u; omega
  · have h4 := rt_W_dl hz hd (fun u v w h => by have := hb u v w h; omega) h1
    have ⟨_, gv⟩ := rt_W_end hg h1
    have := hr v gv
    have := hgn v gv
    have := hd v
    have h2 : ((r v : Nat) : Int) = ((r u : Nat) : Int) + (w : Int) := h2
    omega
/-- the state at the loop's head, in numbers -/
def ShI (gt : Nat → Prop) (pl : Nat → Nat) (s lt : Nat → Nat → Nat) (d : Nat → Nat) (n : Nat) (r mv t : Nat → Nat) (P um rd : Nat) : Prop :=
  rt_CI (EE gt pl s lt) (II gt pl s lt) gt d n (fun u => (r u : Int)) (fun u => (mv u : Int)) (fun u => (t u : Int)) (P : Int) um rd ∧ (∀ u, ¬ gt u → r u = 0 ∧ mv u = 0) ∧ ((¬ ∃ u, gt u) → P = 0) ∧ (∀ u, gt u → t u ≤ 20000000) ∧ P ≤ 20000000 ∧ um ≤ rt_cnt gt n
def ShW (w w1 : cx_W) (mr tr tl : Nat → Int32) (r mv t : Nat → Nat) (gt : Nat → Prop) (Pb P : Nat) : Prop :=
  w1 36 = oRe (nI Pb) (nI P) ∧ w1 37 = ai 48 mr ∧ w1 38 = ai 48 tr ∧ w1 39 = ai 48 tl ∧ (∀ j, j < 48 → mr j = nI (mv j) ∧ tr j = nI (r j)) ∧ (∀ u, gt u → tl u = nI (t u)) ∧ ∀ k, k < 36 ∨ 39 < k → w1 k = w k
theorem ShI_bd {gt : Nat → Prop} {pl : Nat → Nat} {s lt : Nat → Nat → Nat} {d : Nat → Nat} {n : Nat} {r mv t : Nat → Nat} {P um rd : Nat} (hH : rt_H (EE gt pl s lt) gt d n) (h : ShI gt pl s lt d n r mv t P um rd) : (∀ u, mv u ≤ 47) ∧ (∀ u, r u ≤ 95) ∧ (um < rt_cnt gt n → rd < 2304) ∧ rt_sum gt (fun u => (mv u : Int)) n ≤ 2256 := by
  obtain ⟨hC, h0, h1, h2, h3, h4⟩ := h
  have hn := hH.1.1
  have hcl := rt_cnt_le gt n
  have ng := rt_nogap (gt := gt) (G := rt_cnt gt n) (l := fun u => (mv u : Int)) (fun u v k c => rt_C_gt hH c) hC.2.2.1 hH.2.2 rfl
  have m47 : ∀ u, mv u ≤ 47 := fun u => by
    by_cases g : gt u
    · have := ng u g; omega
    · have := (h0 u g).2; omega
  refine ⟨m47, fun u => ?_, fun hu => (rt_CI_rounds hH hC rfl hu).1, ?_⟩
  · by_cases g : gt u
    · have h7 : (mv u : Int) ≤ (r u : Int) ∧ (r u : Int) ≤ (mv u : Int) + (um : Int) := hC.2.2.2.2.2.2.1 u g
      have := m47 u; omega
    · have := (h0 u g).1; omega
  · have := rt_sum_le (gt := gt) (r := fun u => (mv u : Int)) (n := n) (b := 47) (by omega) (fun u _ => by have := m47 u; omega)
    omega
/-- at the loop's end -/
theorem ShI_end {gt : Nat → Prop} {pl : Nat → Nat} {s lt : Nat → Nat → Nat} {d : Nat → Nat} {n : Nat} {r mv t : Nat → Nat} {P um rd : Nat} (h : ShI gt pl s lt d n r mv t P um rd) (hno : (∃ u, gt u) → ¬ rt_F (EE gt pl s lt) (II gt pl s lt) gt d n ((P : Int) - 1)) :
    rt_B (EE gt pl s lt) (II gt pl s lt) gt d n P (fun u => (mv u : Int)) := by
  obtain ⟨hC, h0, h1, h2, h3, h4⟩ := h
  refine ⟨by omega, hC.2.2.1, hC.2.2.2.1, ?_⟩
  by_cases g : ∃ u, gt u
  · exact .inr (hno g)
  · exact .inl (by have := h1 g; omega)
set_option maxHeartbeats 16000000 in
theorem sh_loop {w : cx_W} {n : Nat} {gt : Nat → Prop} {pl : Nat → Nat} {s lt : Nat → Nat → Nat} {F : Nat → Nat} {fo oc : Nat} {d : Nat → Nat} {gs ch dr gm sr tg ct : Nat → Int32} {Pb fl : Nat} {R : cx_W → Prop} {Q : cx_Q} (hW : RtW w n gt pl s lt F fo oc d gs ch dr gm sr tg ct) (hH : rt_H (EE gt pl s lt) gt d n) (hfl : (∀ u, gt u → d u ≤ fl) ∧ ((∃ u, gt u) → ∃ u, gt u ∧ fl = d u) ∧ ((¬ ∃ u, gt u) → fl = 0))
    (hX : ∀ (w1 : cx_W) (mr tr tl : Nat → Int32) (r mv t : Nat → Nat) (P : Nat), ShW w w1 mr tr tl r mv t gt Pb P → rt_B (EE gt pl s lt) (II gt pl s lt) gt d n P (fun u => (mv u : Int)) → (∀ u, ¬ gt u → mv u = 0) → (∀ u, mv u ≤ 47) → cx_CS 10 0 0 128 [.ref 36] w1 (87, 0, 0) (fun r_ w2 _ => r_ = none ∧ R w2)) (hR : ∀ w2, R w2 → Q none w2 (87, 0, 0)) :
    ∀ (m rd : Nat) (w1 : cx_W) (mr tr tl : Nat → Int32) (r mv t : Nat → Nat) (P um : Nat) (l4 : Option Value), rd + m = 2304 → ShW w w1 mr tr tl r mv t gt Pb P → ShI gt pl s lt d n r mv t P um rd →
      cx_OK none mRe_shorten 10 0 0 Q 41 [some (.ref 36), some (.int (nI fl)), some (.int (nI um)), some (.int (nI rd)), l4] [] w1 (87, 0, 0) := by
  have hW' := hW
  obtain ⟨⟨h1, hn, ⟨x13, h13⟩, h16, h20, h24, h28, h29, h30, h31, h32, h33⟩, hB, hG, hfo, hgd, hd, hcov, hcn, hout⟩ := hW
  have hcl := rt_cnt_le gt n
  have hpos : (∃ u, gt u) ↔ 0 < rt_cnt gt n := ⟨fun ⟨u, hu⟩ => by have := rt_cnt_up hu (hgd u hu).1; omega, fun h => by have ⟨g, _, hg, _⟩ := rt_cnt_ex h; exact ⟨g, hg⟩⟩
  have over : ∀ {r mv t : Nat → Nat} {P um rd : Nat}, ShI gt pl s lt d n r mv t P um rd → rt_cnt gt n ≤ um → rt_B (EE gt pl s lt) (II gt pl s lt) gt d n P (fun u => (mv u : Int)) := fun hI hu => ShI_end hI fun hg => rt_CI_over hH hI.1 rfl hg hu
  intro m
  induction m with
  | zero =>
    intro rd w1 mr tr tl r mv t P um l4 hm hS hI
    have e : rd = 2304 := by omega
    subst e
    have ⟨b1, b2, b3, b4⟩ := ShI_bd hH hI
    have hu : rt_cnt gt n ≤ um := by
      by_cases q : um < rt_cnt gt n
      · have := b3 q; omega
      · omega
    have k36 := hS.1
    have E : ((2304 : Int32) ≤ nI 2304) = True := eq_true (by decide)
    refine cx_run 100 mRe_shorten_mo ?_
    simp (decide := true) only [BmRe_shorten, k36, E, EV, EW, CT, ev_o, ev_is, ev_gd, List.length_cons, List.length_nil, Nat.reduceLT, Nat.reduceAdd, Nat.reduceEqDiff, Nat.reduceLeDiff, Int32.reduceLT, Int32.reduceLE, reduceIte, true_and, and_true, true_or, or_true, not_true_eq_false, not_false_eq_true, false_imp_iff, true_imp_iff, implies_true]
    exact cx_CS_then (hX w1 mr tr tl r mv t P hS (over hI hu) (fun u hu => (hI.2.1 u hu).2) b1) fun w2 h2 => by
      simp (decide := true) only [BmRe_shorten, EV, EW, CT, ev_o, ev_is, ev_gd, List.length_cons, List.length_nil, Nat.reduceLT, Nat.reduceAdd, Nat.reduceEqDiff, Nat.reduceLeDiff, Int32.reduceLT, Int32.reduceLE, reduceIte, true_and, and_true, true_or, or_true, not_true_eq_false, not_false_eq_true, false_imp_iff, true_imp_iff, implies_true]
      exact hR w2 h2
  | succ m ih =>
    intro rd w1 mr tr tl r mv t P um l4 hm hS hI
    have hS' := hS
    have hI' := hI
    obtain ⟨k36, k37, k38, k39, hrow, htl, hk⟩ := hS
    obtain ⟨hC, h0, hP0, ht20, hP20, hum⟩ := hI
    have ⟨b1, b2, b3, b4⟩ := ShI_bd hH hI'
    have E : ((2304 : Int32) ≤ nI rd) = False := (lek (a := rd) (c := 2304) (x := 2304) rfl (by omega) (by decide)).trans (eq_false (by omega))
    have k20 := (hk 20 (by decide)).trans h20
    refine cx_run 100 mRe_shorten_mo ?_
    by_cases hu : um < rt_cnt gt n
    · have EU := leF (a := rt_cnt gt n) (b := um) hu (by omega)
      have hg : ∃ u, gt u := hpos.mpr (by omega)
      obtain ⟨uf, guf, euf⟩ := hfl.2.1 hg
      have hdP : ∀ u, gt u → d u ≤ P := fun u gu => by
        have := hC.2.2.1.1.2 u u _ (.inl ⟨rfl, gu, rfl⟩)
        by_cases q : (P : Int) < ((d u : Nat) : Int)
        · rw [if_pos q] at this; omega
        · omega
      by_cases hPf : P = fl
      · have EP : (nI P = nI fl) = True := eq_true (by rw [hPf])
        have fin : rt_B (EE gt pl s lt) (II gt pl s lt) gt d n P (fun u => (mv u : Int)) := ShI_end hI' fun _ => rt_CI_floor ⟨uf, guf, by omega⟩
        simp (decide := true) only [BmRe_shorten, BSC, k36, k20, E, EU, EP, EV, EW, CT, ev_o, ev_is, ev_gd, List.length_cons, List.length_nil, Nat.reduceLT, Nat.reduceAdd, Nat.reduceEqDiff, Nat.reduceLeDiff, Int32.reduceLT, Int32.reduceLE, reduceIte, true_and, and_true, true_or, or_true, not_true_eq_false, not_false_eq_true, false_imp_iff, true_imp_iff, implies_true]
        exact cx_CS_then (hX w1 mr tr tl r mv t P hS' fin (fun u hu => (h0 u hu).2) b1) fun w2 h2 => by
          simp (decide := true) only [BmRe_shorten, EV, EW, CT, ev_o, ev_is, ev_gd, List.length_cons, List.length_nil, Nat.reduceLT, Nat.reduceAdd, Nat.reduceEqDiff, Nat.reduceLeDiff, Int32.reduceLT, Int32.reduceLE, reduceIte, true_and, and_true, true_or, or_true, not_true_eq_false, not_false_eq_true, false_imp_iff, true_imp_iff, implies_true]
          exact hR w2 h2
      · have EP : (nI P = nI fl) = False := eq_false (by
          have := hdP uf guf
          rw [nI_eq (by omega) (by omega)]; exact hPf)
        obtain ⟨W, hW1⟩ : ∃ W, P = W + 1 := ⟨P - 1, by have := hdP uf guf; omega⟩
        have eW : nI P - 1 = nI W := by rw [hW1]; exact nI_pred _
        simp (decide := true) only [BmRe_shorten, BSC, k36, k20, E, EU, EP, eW, EV, EW, CT, ev_o, ev_is, ev_gd, List.length_cons, List.length_nil, Nat.reduceLT, Nat.reduceAdd, Nat.reduceEqDiff, Nat.reduceLeDiff, Int32.reduceLT, Int32.reduceLE, reduceIte, true_and, and_true, true_or, or_true, not_true_eq_false, not_false_eq_true, false_imp_iff, true_imp_iff, implies_true]
        refine cx_cs1 9 0 0 (by decide) (c_Re_raise (dd := 7) (r := r) (t := t) (W := W) (hW'.of fun k q => hk k (by omega)) k36 k38 (fun j hj => (hrow j hj).2) k39 (fun u hu => ⟨htl u hu, ht20 u hu⟩) (by omega)) fun r_ w2 h2 => ?_
        obtain ⟨rfl, tr2, r2, a38, ar, ag, an, ak⟩ := h2
        have a36 := (ak 36 (by decide)).trans k36
        have hr' : ∀ u, gt u → ((r2 u : Nat) : Int) = (r u : Int) + (if (P : Int) - 1 < (t u : Int) then 1 else 0) := fun u gu => by
          rw [ag u gu]
          by_cases q : W < t u
          · rw [if_pos q, if_pos (by omega)]; omega
          · rw [if_neg q, if_neg (by omega)]; omega
        have leg2 := rt_raise_leg (r' := fun u => (r2 u : Int)) hH hC.1 hC.2.2.2.2.1 hr'
        have r2b : ∀ u, r2 u ≤ 96 := fun u => by
          by_cases g : gt u
          · have := b2 u; have := ag u g; split at this <;> omega
          · have := an u g; have := b2 u; omega
        have r20 : ∀ u, ¬ gt u → r2 u = 0 := fun u g => by rw [an u g]; exact (h0 u g).1
        have htr2 : ∀ j, j < 48 → tr2 j = nI (r2 j) ∧ r2 j ≤ 200 := fun j hj => ⟨ar j hj, by have := r2b j; omega⟩
        simp (decide := true) only [BmRe_shorten, a36, EV, EW, CT, ev_o, ev_is, ev_gd, List.length_cons, List.length_nil, Nat.reduceLT, Nat.reduceAdd, Nat.reduceEqDiff, Nat.reduceLeDiff, Int32.reduceLT, Int32.reduceLE, reduceIte, true_and, and_true, true_or, or_true, not_true_eq_false, not_false_eq_true, false_imp_iff, true_imp_iff, implies_true]
        have hin : (∃ g p, gt g ∧ p < pl g ∧ lt g p + r2 (s g p) < r2 g) ↔ ¬ rt_in (II gt pl s lt) (fun u => (r2 u : Int)) := by
          constructor
          · rintro ⟨g, p, hg, hp, hlt⟩ hin
            by_cases gs : gt (s g p)
            · have := leg2 (s g p) g (lt g p) ⟨hg, p, hp, rfl, gs, rfl⟩
              simp only at this; omega
            · have := hin g (lt g p) ⟨hg, p, hp, gs, rfl⟩
              simp only at this; omega
          · intro hin
            refine Classical.byContradiction fun hno => hin ?_
            rintro v w_ ⟨hv, p, hp, hs, rfl⟩
            refine Classical.byContradiction fun hlt => hno ⟨v, p, hv, hp, ?_⟩
            have := r20 _ hs
            simp only at hlt; omega
        by_cases bad : ∃ g p, gt g ∧ p < pl g ∧ lt g p + r2 (s g p) < r2 g
        · refine cx_cs1 9 0 0 (by decide) (c_Re_taken (dd := 7) (b := true) (r := r2) (hW'.of fun k q => (ak k (by omega)).trans (hk k (by omega))) a36 a38 htr2 ⟨fun _ => bad, fun _ => rfl⟩) fun r_ w3 h3 => ?_
          obtain ⟨rfl, rfl⟩ := h3
          have fin : rt_B (EE gt pl s lt) (II gt pl s lt) gt d n P (fun u => (mv u : Int)) := ShI_end hI' fun _ => rt_CI_taken (r' := fun u => (r2 u : Int)) hH (fun v w_ h => h.1) hC hr' (hin.mp bad)
          simp (decide := true) only [BmRe_shorten, a36, EV, EW, CT, ev_o, ev_is, ev_gd, List.length_cons, List.length_nil, Nat.reduceLT, Nat.reduceAdd, Nat.reduceEqDiff, Nat.reduceLeDiff, Int32.reduceLT, Int32.reduceLE, reduceIte, true_and, and_true, true_or, or_true, not_true_eq_false, not_false_eq_true, false_imp_iff, true_imp_iff, implies_true]
          exact cx_CS_then (hX w3 mr tr2 tl r2 mv t P ⟨a36, (ak 37 (by decide)).trans k37, a38, (ak 39 (by decide)).trans k39, fun j hj => ⟨(hrow j hj).1, ar j hj⟩, htl, fun k q => (ak k (by omega)).trans (hk k q)⟩ fin (fun u hu => (h0 u hu).2) b1) fun w4 h4 => by
            simp (decide := true) only [BmRe_shorten, EV, EW, CT, ev_o, ev_is, ev_gd, List.length_cons, List.length_nil, Nat.reduceLT, Nat.reduceAdd, Nat.reduceEqDiff, Nat.reduceLeDiff, Int32.reduceLT, Int32.reduceLE, reduceIte, true_and, and_true, true_or, or_true, not_true_eq_false, not_false_eq_true, false_imp_iff, true_imp_iff, implies_true]
            exact hR w4 h4
        · refine cx_cs1 9 0 0 (by decide) (c_Re_taken (dd := 7) (b := false) (r := r2) (hW'.of fun k q => (ak k (by omega)).trans (hk k (by omega))) a36 a38 htr2 ⟨fun z => (by cases z), fun z => absurd z bad⟩) fun r_ w3 h3 => ?_
          obtain ⟨rfl, rfl⟩ := h3
          have inok : rt_in (II gt pl s lt) (fun u => (r2 u : Int)) := Classical.byContradiction fun z => bad (hin.mpr z)
          obtain ⟨T, hT⟩ := rt_T_ex (r := fun u => (r2 u : Int)) (B := 200) hH (fun u _ => by have := r2b u; omega)
          have hTb := rt_T_bd hH (fun u _ => by have := r2b u; omega) hT
          simp (decide := true) only [BmRe_shorten, a36, Bool.false_eq_true, EV, EW, CT, ev_o, ev_is, ev_gd, List.length_cons, List.length_nil, Nat.reduceLT, Nat.reduceAdd, Nat.reduceEqDiff, Nat.reduceLeDiff, Int32.reduceLT, Int32.reduceLE, reduceIte, true_and, and_true, true_or, or_true, not_true_eq_false, not_false_eq_true, false_imp_iff, true_imp_iff, implies_true]
          refine cx_cs1 9 0 0 (by decide) (c_Re_measure (r := r2) (T := T) (hW'.of fun k q => (ak k (by omega)).trans (hk k (by omega))) hH a36 a38 ((ak 39 (by decide)).trans k39) htr2 leg2 hT hTb) fun r_ w4 h4 => ?_
          obtain ⟨tl4, t4, P4, rfl, c39, ct_, ck, cP, cA, cN⟩ := h4
          have c36 := (ck 36 (by decide)).trans a36
          have hT4 : rt_T (EE gt pl s lt) gt d n (fun u => (r2 u : Int)) (fun u => (t4 u : Int)) := fun u gu => by
            have := hT u gu
            rw [← (ct_ u gu).2] at this
            exact this
          have t420 : ∀ u, gt u → t4 u ≤ 20000000 := fun u gu => by have := (ct_ u gu).2; have := hTb u gu; omega
          obtain ⟨ua, gua, eua⟩ := cA hg
          have P420 : P4 ≤ 20000000 := by have := t420 ua gua; omega
          have fr : ∀ k, k < 36 ∨ 39 < k → w4 k = w k := fun k q => (ck k (by omega)).trans ((ak k (by omega)).trans (hk k q))
          by_cases less : P4 < P
          · have L := leF (a := P) (b := P4) less (by omega)
            simp (decide := true) only [BmRe_shorten, c36, (ck 37 (by decide)).trans ((ak 37 (by decide)).trans k37), (ck 38 (by decide)).trans a38, L, Int32.reduceToNatClampNeg, nI_1, EV, EW, CT, ev_o, ev_is, ev_gd, List.length_cons, List.length_nil, Nat.reduceLT, Nat.reduceAdd, Nat.reduceEqDiff, Nat.reduceLeDiff, Int32.reduceLT, Int32.reduceLE, reduceIte, true_and, and_true, true_or, or_true, not_true_eq_false, not_false_eq_true, false_imp_iff, true_imp_iff, implies_true]
            refine ih (rd + 1) _ (va_cpy tr2 mr 0 0 48) tr2 tl4 r2 r2 t4 P4 0 _ (by omega) ⟨by simp only [cx_up, Nat.reduceEqDiff, reduceIte], by simp only [cx_up, Nat.reduceEqDiff, reduceIte], by simp only [cx_up, Nat.reduceEqDiff, reduceIte]; exact (ck 38 (by decide)).trans a38, by simp only [cx_up, Nat.reduceEqDiff, reduceIte]; exact c39, fun j hj => ⟨?_, ar j hj⟩, fun u gu => (ct_ u gu).1, fun k q => by rw [← fr k q]; simp (disch := omega) only [cx_up, if_neg]⟩ ⟨rt_CI_met (P' := (P4 : Int)) hH hC hg hr' inok hT4 (fun u gu => by have := cP u gu; omega) ⟨ua, gua, by omega⟩ (by omega) (by omega), fun u g => ⟨r20 u g, r20 u g⟩, fun z => absurd hg z, t420, P420, Nat.zero_le _⟩
            rw [pk_cpy_in (by omega) (by omega), show 0 + (j - 0) = j by omega]; exact ar j hj
          · have L := leT (a := P) (b := P4) (by omega) (by omega)
            simp (decide := true) only [BmRe_shorten, c36, L, nI_1, EV, EW, CT, ev_o, ev_is, ev_gd, List.length_cons, List.length_nil, Nat.reduceLT, Nat.reduceAdd, Nat.reduceEqDiff, Nat.reduceLeDiff, Int32.reduceLT, Int32.reduceLE, reduceIte, true_and, and_true, true_or, or_true, not_true_eq_false, not_false_eq_true, false_imp_iff, true_imp_iff, implies_true]
            exact ih (rd + 1) w4 mr tr2 tl4 r2 mv t4 P (um + 1) _ (by omega) ⟨c36, (ck 37 (by decide)).trans ((ak 37 (by decide)).trans k37), (ck 38 (by decide)).trans a38, c39, fun j hj => ⟨(hrow j hj).1, ar j hj⟩, fun u gu => (ct_ u gu).1, fr⟩ ⟨rt_CI_unmet hH hC hg hr' inok hT4 ⟨ua, gua, by omega⟩, fun u g => ⟨r20 u g, (h0 u g).2⟩, hP0, t420, hP20, by omega⟩
    · have EU := leT (a := rt_cnt gt n) (b := um) (by omega) (by omega)
      simp (decide := true) only [BmRe_shorten, BSC, k36, k20, E, EU, EV, EW, CT, ev_o, ev_is, ev_gd, List.length_cons, List.length_nil, Nat.reduceLT, Nat.reduceAdd, Nat.reduceEqDiff, Nat.reduceLeDiff, Int32.reduceLT, Int32.reduceLE, reduceIte, true_and, and_true, true_or, or_true, not_true_eq_false, not_false_eq_true, false_imp_iff, true_imp_iff, implies_true]
      exact cx_CS_then (hX w1 mr tr tl r mv t P hS' (over hI' (by omega)) (fun u hu => (h0 u hu).2) b1) fun w2 h2 => by
        simp (decide := true) only [BmRe_shorten, EV, EW, CT, ev_o, ev_is, ev_gd, List.length_cons, List.length_nil, Nat.reduceLT, Nat.reduceAdd, Nat.reduceEqDiff, Nat.reduceLeDiff, Int32.reduceLT, Int32.reduceLE, reduceIte, true_and, and_true, true_or, or_true, not_true_eq_false, not_false_eq_true, false_imp_iff, true_imp_iff, implies_true]
        exact hR w2 h2
set_option maxHeartbeats 16000000 in
theorem c_Re_shorten {w : cx_W} {n : Nat} {gt : Nat → Prop} {pl : Nat → Nat} {s lt : Nat → Nat → Nat} {F : Nat → Nat} {fo oc : Nat} {d : Nat → Nat} {gs ch dr gm sr tg ct mr0 tr0 tl0 : Nat → Int32} {y0 y1 : Int32} {R : Nat → Nat → (Nat → Nat) → cx_W → Prop} (hW : RtW w n gt pl s lt F fo oc d gs ch dr gm sr tg ct) (hH : rt_H (EE gt pl s lt) gt d n) (h36 : w 36 = oRe y0 y1) (h37 : w 37 = ai 48 mr0) (h38 : w 38 = ai 48 tr0) (h39 : w 39 = ai 48 tl0) {T : Nat → Int} (hT : rt_T (EE gt pl s lt) gt d n (fun _ => 0) T)
    (hX : ∀ (w1 : cx_W) (mr tr tl : Nat → Int32) (r mv t : Nat → Nat) (Pb P : Nat), ShW w w1 mr tr tl r mv t gt Pb P → rt_B (EE gt pl s lt) (II gt pl s lt) gt d n P (fun u => (mv u : Int)) → (∀ u, ¬ gt u → mv u = 0) → (∀ u, mv u ≤ 47) → (∀ u, gt u → T u ≤ Pb) → ((∃ u, gt u) → ∃ u, gt u ∧ (Pb : Int) = T u) → ((¬ ∃ u, gt u) → Pb = 0) → cx_CS 10 0 0 128 [.ref 36] w1 (87, 0, 0) (fun r_ w2 _ => r_ = none ∧ R Pb P mv w2)) :
    cx_MC mRe_shorten 10 0 0 [.ref 36] w 87 (fun r_ w2 => r_ = none ∧ ∃ Pb P mv, R Pb P mv w2) := by
  have hW' := hW
  obtain ⟨⟨h1, hn, ⟨x13, h13⟩, h16, h20, h24, h28, h29, h30, h31, h32, h33⟩, hB, hG, hfo, hgd, hd, hcov, hcn, hout⟩ := hW
  have hTb := rt_T_bd (r := fun _ => 0) hH (fun _ _ => by omega) hT
  refine cx_met 100 mRe_shorten_ok rfl ?_
  show cx_vc 100 none mRe_shorten 10 0 0 _ _ 0 [some (.ref 36), none, none, none, none] [] w (87, 0, 0)
  simp (decide := true) only [BmRe_shorten, h36, EV, EW, CT, ev_o, ev_is, ev_gd, List.length_cons, List.length_nil, Nat.reduceLT, Nat.reduceAdd, Nat.reduceEqDiff, Nat.reduceLeDiff, Int32.reduceLT, Int32.reduceLE, reduceIte, true_and, and_true, true_or, or_true, not_true_eq_false, not_false_eq_true, false_imp_iff, true_imp_iff, implies_true]
  refine cx_cs1 9 0 0 (by decide) (c_Arr_fill (by decide) (by decide) h37) fun r_ w2 h2 => ?_
  obtain ⟨rfl, a37, ak⟩ := h2
  have a36 := (ak 36 (by decide)).trans h36
  simp (decide := true) only [BmRe_shorten, a36, EV, EW, CT, ev_o, ev_is, ev_gd, List.length_cons, List.length_nil, Nat.reduceLT, Nat.reduceAdd, Nat.reduceEqDiff, Nat.reduceLeDiff, Int32.reduceLT, Int32.reduceLE, reduceIte, true_and, and_true, true_or, or_true, not_true_eq_false, not_false_eq_true, false_imp_iff, true_imp_iff, implies_true]
  refine cx_cs1 9 0 0 (by decide) (c_Arr_fill (by decide) (by decide) ((ak 38 (by decide)).trans h38)) fun r_ w3 h3 => ?_
  obtain ⟨rfl, b38, bk⟩ := h3
  have b36 := (bk 36 (by decide)).trans a36
  have b37 := (bk 37 (by decide)).trans a37
  have b39 := (bk 39 (by decide)).trans ((ak 39 (by decide)).trans h39)
  have f3 : ∀ k, k < 36 ∨ 39 < k → w3 k = w k := fun k q => (bk k (by omega)).trans (ak k (by omega))
  simp (decide := true) only [BmRe_shorten, b36, EV, EW, CT, ev_o, ev_is, ev_gd, List.length_cons, List.length_nil, Nat.reduceLT, Nat.reduceAdd, Nat.reduceEqDiff, Nat.reduceLeDiff, Int32.reduceLT, Int32.reduceLE, reduceIte, true_and, and_true, true_or, or_true, not_true_eq_false, not_false_eq_true, false_imp_iff, true_imp_iff, implies_true]
  refine cx_cs1 9 0 0 (by decide) (c_Re_measure (r := fun _ => 0) (T := T) (hW'.of fun k q => f3 k (by omega)) hH b36 b38 b39 (fun j hj => ⟨by rw [if_pos hj]; rfl, by omega⟩) (fun u v w_ _ => by simp only; omega) hT hTb) fun r_ w4 h4 => ?_
  obtain ⟨tl4, t4, P4, rfl, c39, ct_, ck, cP, cA, cN⟩ := h4
  have c36 := (ck 36 (by decide)).trans b36
  have t420 : ∀ u, gt u → t4 u ≤ 20000000 := fun u gu => by have := (ct_ u gu).2; have := hTb u gu; omega
  have P420 : P4 ≤ 20000000 := by
    by_cases g : ∃ u, gt u
    · obtain ⟨u, gu, e⟩ := cA g; have := t420 u gu; omega
    · have := cN g; omega
  simp (decide := true) only [BmRe_shorten, c36, EV, EW, CT, ev_o, ev_is, ev_gd, List.length_cons, List.length_nil, Nat.reduceLT, Nat.reduceAdd, Nat.reduceEqDiff, Nat.reduceLeDiff, Int32.reduceLT, Int32.reduceLE, reduceIte, true_and, and_true, true_or, or_true, not_true_eq_false, not_false_eq_true, false_imp_iff, true_imp_iff, implies_true]
  have f4 : ∀ k, k < 36 ∨ 39 < k → w4 k = w k := fun k q => (ck k (by omega)).trans (f3 k q)
  refine cx_cs1 9 0 0 (by decide) (c_Re_slowestGate (dd := 6) (y0 := nI P4) (y1 := nI P4) (hW'.of fun k q => by rw [← f4 k (by omega)]; simp (disch := omega) only [cx_up, if_neg]) (by simp only [cx_up, Nat.reduceEqDiff, reduceIte])) fun r_ w5 h5 => ?_
  obtain ⟨fl, rfl, rfl, g1, g2, g3⟩ := h5
  simp (decide := true) only [BmRe_shorten, EV, EW, CT, ev_o, ev_is, ev_gd, List.length_cons, List.length_nil, Nat.reduceLT, Nat.reduceAdd, Nat.reduceEqDiff, Nat.reduceLeDiff, Int32.reduceLT, Int32.reduceLE, reduceIte, true_and, and_true, true_or, or_true, not_true_eq_false, not_false_eq_true, false_imp_iff, true_imp_iff, implies_true]
  have hT4 : rt_T (EE gt pl s lt) gt d n (fun _ => 0) (fun u => (t4 u : Int)) := fun u gu => by
    have := hT u gu
    rw [← (ct_ u gu).2] at this
    exact this
  refine sh_loop (w := w) (Pb := P4) (fl := fl) (R := fun w2 => ∃ Pb P mv, R Pb P mv w2) hW' hH ⟨g1, g2, g3⟩ (fun w1 mr tr tl r mv t P a b c dd_ => cx_CS_then (hX w1 mr tr tl r mv t P4 P a b c dd_ (fun u gu => by have := cP u gu; have := (ct_ u gu).2; omega) (fun g => by obtain ⟨u, gu, e⟩ := cA g; exact ⟨u, gu, by have := (ct_ u gu).2; omega⟩) cN) fun w2 h2 => ⟨rfl, P4, P, mv, h2⟩) (fun w2 h2 => ⟨rfl, h2⟩) 2304 0 _ _ _ tl4 (fun _ => 0) (fun _ => 0) t4 P4 0 none (by omega) ⟨by simp only [cx_up, Nat.reduceEqDiff, reduceIte], by simp only [cx_up, Nat.reduceEqDiff, reduceIte]; exact (ck 37 (by decide)).trans b37, by simp only [cx_up, Nat.reduceEqDiff, reduceIte]; exact (ck 38 (by decide)).trans b38, by simp only [cx_up, Nat.reduceEqDiff, reduceIte]; exact c39, fun j hj => ⟨by rw [if_pos hj]; rfl, by rw [if_pos hj]; rfl⟩, fun u gu => (ct_ u gu).1, fun k q => by rw [← f4 k q]; simp (disch := omega) only [cx_up, if_neg]⟩
    ⟨rt_CI_first hH hT4 (fun u gu => by have := cP u gu; omega) (fun g => by obtain ⟨u, gu, e⟩ := cA g; exact ⟨u, gu, by omega⟩) (by omega), fun u _ => ⟨rfl, rfl⟩, cN, t420, P420, Nat.zero_le _⟩
