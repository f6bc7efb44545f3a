/-! Reaching a period: the reference's side. Own work. -/
theorem rt_R_gt {gt : Nat → Prop} {d : Nat → Nat} {F S : Nat → Nat → Nat} {P : Int} : ∀ u v k, rt_R gt d F S P u v k → gt u ∧ gt v := fun _ _ _ h => ⟨h.1, h.2.1⟩
/-- after t rounds -/
def ReI (n : Nat) (gt : Nat → Prop) (C : Nat → Nat → Int → Prop) (r : Nat → Nat) (mo : Int32) (t : Nat) : Prop :=
  (∀ u, r u ≤ 2304 * t) ∧ (∀ u, ¬ gt u → r u = 0) ∧ (∀ s, rt_S gt C (fun _ => 0) s → ∀ u, gt u → (r u : Int) ≤ s u) ∧
  ((mo = 0 ∧ ∀ u v k, C u v k → (r v : Int) ≤ (r u : Int) + k) ∨ (mo = 1 ∧ ∀ l, rt_L gt C (fun _ => 0) l → t ≤ rt_cnt (fun u => gt u → (r u : Int) = l u) n))
theorem ReI_step {n : Nat} {gt : Nat → Prop} {C : Nat → Nat → Int → Prop} {r r1 : Nat → Nat} {mo : Int32} {t : Nat} (hC : ∀ u v k, C u v k → gt u ∧ gt v) (hgn : ∀ u, gt u → u < n) (h : ReI n gt C r 1 t) (hr : RaI gt C r r1 mo (2304 * t + 2304)) (hp : ∀ u v k, C u v k → (r v : Int) ≤ (r1 u : Int) + k) : ReI n gt C r1 mo (t + 1) := by
  obtain ⟨a1, a2, a3, a4⟩ := h
  obtain ⟨b1, b2, b3, b4⟩ := hr
  have le : ∀ s, rt_S gt C (fun _ => 0) s → ∀ u, gt u → (r1 u : Int) ≤ s u := fun s hs u hu => b3 s hs.2 (fun u hu => a3 s hs u hu) u hu
  refine ⟨fun u => by have := (b1 u).2; omega, fun u hu => (b2 u hu).trans (a2 u hu), le, ?_⟩
  rcases b4 with ⟨m0, e⟩ | ⟨m1, hne⟩
  · refine .inl ⟨m0, fun u v k hc => ?_⟩
    have := hp u v k hc
    rw [e v]
    exact this
  · refine .inr ⟨m1, fun l hl => ?_⟩
    rcases a4 with ⟨z, _⟩ | ⟨_, c⟩
    · exact absurd z (by decide)
    · exact rt_ref_step (r := fun u => (r u : Int)) (r' := fun u => (r1 u : Int)) hC hgn hl (fun u _ => by omega) (fun u hu => ⟨by have := (b1 u).1; omega, le l hl.1 u hu⟩) hp (c l hl) hne
theorem ReI_least {n : Nat} {E : Nat → Nat → Nat → Prop} {gt : Nat → Prop} {d : Nat → Nat} {F S : Nat → Nat → Nat} {P : Int} {r : Nat → Nat} {t : Nat} (hH : rt_H E gt d n) (hF : rt_FW E d n F S n) (h : ReI n gt (rt_R gt d F S P) r 0 t) : rt_L gt (rt_C E gt d n P) (fun _ => 0) (fun u => (r u : Int)) := by
  obtain ⟨a1, a2, a3, a4⟩ := h
  rcases a4 with ⟨_, c⟩ | ⟨z, _⟩
  · exact ⟨rt_C_of_R hH hF ⟨fun u _ => by show (0 : Int) ≤ (r u : Int); omega, c⟩, fun s hs u hu => a3 s (rt_R_of_C hH hF hs) u hu⟩
  · exact absurd z (by decide)
theorem ReI_never {n : Nat} {E : Nat → Nat → Nat → Prop} {I : Nat → Nat → Prop} {gt : Nat → Prop} {d : Nat → Nat} {F S : Nat → Nat → Nat} {P : Int} {r : Nat → Nat} {t : Nat} (hH : rt_H E gt d n) (hF : rt_FW E d n F S n) (h : ReI n gt (rt_R gt d F S P) r 1 t) (ht : n < t) : ¬ rt_F E I gt d n P := fun ⟨s, hs, _⟩ => by
  obtain ⟨a1, a2, a3, a4⟩ := h
  obtain ⟨l, hl⟩ := rt_L_ex (gt := gt) (C := rt_R gt d F S P) (r0 := fun _ => 0) (fun u v k h => rt_R_gt u v k h) ⟨s, rt_R_of_C hH hF hs⟩
  rcases a4 with ⟨z, _⟩ | ⟨_, c⟩
  · exact absurd z (by decide)
  · have := c l hl
    have := rt_cnt_le (fun u => gt u → (r u : Int) = l u) n
    omega
/-- what is answered -/
def ReA (E : Nat → Nat → Nat → Prop) (I : Nat → Nat → Prop) (gt : Nat → Prop) (d : Nat → Nat) (n : Nat) (P : Int) (r : Nat → Nat) (mo : Int32) : Prop :=
  (∀ u, ¬ gt u → r u = 0) ∧ ((mo = 1 ∧ rt_L gt (rt_C E gt d n P) (fun _ => 0) (fun u => (r u : Int)) ∧ rt_in I (fun u => (r u : Int))) ∨ (mo = 0 ∧ ¬ rt_F E I gt d n P))
set_option maxHeartbeats 16000000 in
theorem mre_last {w : cx_W} {n : Nat} {gt : Nat → Prop} {q pl d : Nat → Nat} {s lt st : Nat → Nat → Nat} {oc : Nat} {os ol ob : Nat → Nat} {pa dl ch gr so la_ mr : Nat → Int32} {sr : Nat → Int64} {x0 x1 x2 x4 x5 x6 x7 x8 x9 : Int32} {P : Nat} {r : Nat → Nat} {Q : cx_Q} {E : Nat → Nat → Nat → Prop} (hW : RmW w n gt q pl d s lt st oc os ol ob pa dl ch gr so la_ sr) (h45 : w 45 = oM x0 x1 x2 (nI n) x4 x5 x6 x7 x8 x9) (h81 : w 81 = ai 48 mr) (hv : MvR mr r) (hr : ∀ u, r u ≤ 1000000) (h0 : ∀ u, ¬ gt u → r u = 0) (hL : rt_L gt (rt_C E gt d n P) (fun _ => 0) (fun u => (r u : Int)))
    (hQ : ∀ mo : Int32, ReA E (II gt pl s lt) gt d n P r mo → Q (some (.int mo)) w (87, 0, 0)) :
    ∀ (m i : Nat), i + m = 192 → (∀ g p, gt g → p < pl g → 4 * g + p < i → ¬ gt (s g p) → r g ≤ lt g p) →
    cx_OK none mM_reachable 9 0 0 Q 49 [some (.ref 45), some (.int (nI P)), some (.int 0), some (.int (nI i))] [] w (87, 0, 0) := by
  have hpl := pl4 hW
  obtain ⟨⟨hn, hoc, h61, h63, h68, h70, h73, h74, h75⟩, hB, hgd, hd, hcn, hno, hon, hoo⟩ := hW
  intro m
  induction m with
  | zero =>
    intro i hm hI
    have E1 : ((192 : Int32) ≤ nI i) = True := (lek (a := i) (c := 192) (x := 192) rfl (by omega) (by decide)).trans (eq_true (by omega))
    refine cx_run 100 mM_reachable_mo ?_
    simp (decide := true) only [BmM_reachable, E1, EV, EW, CT, ev_o, ev_is, ev_gd, List.length_cons, List.length_nil, Nat.reduceLT, Nat.reduceAdd, Nat.reduceEqDiff, Nat.reduceLeDiff, Int32.reduceLT, Int32.reduceLE, reduceIte, true_and, and_true, true_or, or_true, not_true_eq_false, not_false_eq_true, false_imp_iff, true_imp_iff, implies_true]
    refine hQ 1 ⟨h0, .inl ⟨rfl, hL, fun v k ⟨gv, p, hp, hng, hl⟩ => ?_⟩⟩
    have := hpl v gv
    have := (hgd v gv).1
    have := hI v p gv hp (by omega) hng
    show (r v : Int) ≤ (k : Int)
    omega
  | succ m ih =>
    intro i hm hI
    have E1 : ((192 : Int32) ≤ nI i) = False := (lek (a := i) (c := 192) (x := 192) rfl (by omega) (by decide)).trans (eq_false (by omega))
    have v1 : vp_in (nI i) 196 := nI_in (by omega) (by decide)
    have v2 : vp_in (nI (i / 4)) 48 := nI_in (by omega) (by decide)
    have D := divK (a := i) (c := 4) (x := 4) rfl (by omega) (by decide)
    have no : ¬ (gt (i / 4) ∧ i % 4 < pl (i / 4) ∧ ¬ gt (s (i / 4) (i % 4)) ∧ lt (i / 4) (i % 4) < r (i / 4)) → ∀ g p, gt g → p < pl g → 4 * g + p < i + 1 → ¬ gt (s g p) → r g ≤ lt g p := fun h g p hg hp hi hs => by
      have := hpl g hg
      by_cases e : 4 * g + p = i
      · have e1 : i / 4 = g := by omega
        have e2 : i % 4 = p := by omega
        rw [e1, e2] at h
        apply Nat.le_of_not_lt
        exact fun z => h ⟨hg, hp, hs, z⟩
      · exact hI g p hg hp (by omega) hs
    refine cx_run 100 mM_reachable_mo ?_
    by_cases c : gt (i / 4) ∧ i % 4 < pl (i / 4)
    · have hc := hcn (i / 4) (i % 4) c.1 c.2
      rw [show 4 * (i / 4) + i % 4 = i from Nat.div_add_mod i 4] at hc
      obtain ⟨c1, c2, c3, c4, c5, c6⟩ := hc
      have L0 : (nI (s (i / 4) (i % 4)) < 0) = False := eq_false (Int32.not_lt.mpr (nI_pos' (by omega)))
      have v3 : vp_in (nI (s (i / 4) (i % 4))) 48 := nI_in (by omega) (by decide)
      by_cases gs : gt (s (i / 4) (i % 4))
      · have B1 : gr (s (i / 4) (i % 4)) = 1 := (hB _ (by omega)).1 gs
        simp (decide := true) only [BmM_reachable, h45, h70, h73, E1, v1, v3, L0, B1, c1, nI_clamp (n := i) (by omega), nI_clamp (n := s (i / 4) (i % 4)) (by omega), nI_1, EV, EW, CT, ev_o, ev_is, ev_gd, List.length_cons, List.length_nil, Nat.reduceLT, Nat.reduceAdd, Nat.reduceEqDiff, Nat.reduceLeDiff, Int32.reduceLT, Int32.reduceLE, reduceIte, true_and, and_true, true_or, or_true, not_true_eq_false, not_false_eq_true, false_imp_iff, true_imp_iff, implies_true]
        exact ih (i + 1) (by omega) (no fun z => z.2.2.1 gs)
      · have B1 : gr (s (i / 4) (i % 4)) = 0 := (hB _ (by omega)).2 gs
        have hm_ := hv (i / 4) (by omega)
        have hrb := hr (i / 4)
        by_cases e : r (i / 4) ≤ lt (i / 4) (i % 4)
        · have T := leT (a := r (i / 4)) (b := lt (i / 4) (i % 4)) e (by omega)
          simp (decide := true) only [BmM_reachable, h45, h70, h73, h74, h81, E1, v1, v2, v3, L0, B1, c1, c2, D, hm_, T, nI_clamp (n := i) (by omega), nI_clamp (n := i / 4) (by omega), nI_clamp (n := s (i / 4) (i % 4)) (by omega), nI_1, EV, EW, CT, ev_o, ev_is, ev_gd, List.length_cons, List.length_nil, Nat.reduceLT, Nat.reduceAdd, Nat.reduceEqDiff, Nat.reduceLeDiff, Int32.reduceLT, Int32.reduceLE, reduceIte, true_and, and_true, true_or, or_true, not_true_eq_false, not_false_eq_true, false_imp_iff, true_imp_iff, implies_true]
          exact ih (i + 1) (by omega) (no fun z => by omega)
        · have T := leF (a := r (i / 4)) (b := lt (i / 4) (i % 4)) (by omega) (by omega)
          simp (decide := true) only [BmM_reachable, h45, h70, h73, h74, h81, E1, v1, v2, v3, L0, B1, c1, c2, D, hm_, T, nI_clamp (n := i) (by omega), nI_clamp (n := i / 4) (by omega), nI_clamp (n := s (i / 4) (i % 4)) (by omega), nI_1, EV, EW, CT, ev_o, ev_is, ev_gd, List.length_cons, List.length_nil, Nat.reduceLT, Nat.reduceAdd, Nat.reduceEqDiff, Nat.reduceLeDiff, Int32.reduceLT, Int32.reduceLE, reduceIte, true_and, and_true, true_or, or_true, not_true_eq_false, not_false_eq_true, false_imp_iff, true_imp_iff, implies_true]
          have nev : ¬ rt_F E (II gt pl s lt) gt d n P := fun ⟨y, hy, hi⟩ => by
            have h1 := hL.2 y hy (i / 4) c.1
            have h2 := hi (i / 4) (lt (i / 4) (i % 4)) ⟨c.1, i % 4, c.2, gs, rfl⟩
            have h1 : (r (i / 4) : Int) ≤ y (i / 4) := h1
            omega
          have E2 := lek (a := i + 1) (c := 192) (x := 192) rfl (by omega) (by decide)
          refine cx_run 100 mM_reachable_mo ?_
          by_cases e3 : 192 ≤ i + 1
          · have E3 := E2.trans (eq_true e3)
            simp (decide := true) only [BmM_reachable, E3, EV, EW, CT, ev_o, ev_is, ev_gd, List.length_cons, List.length_nil, Nat.reduceLT, Nat.reduceAdd, Nat.reduceEqDiff, Nat.reduceLeDiff, Int32.reduceLT, Int32.reduceLE, reduceIte, true_and, and_true, true_or, or_true, not_true_eq_false, not_false_eq_true, false_imp_iff, true_imp_iff, implies_true]
            exact hQ 0 ⟨h0, .inr ⟨rfl, nev⟩⟩
          · have E3 := E2.trans (eq_false e3)
            simp (decide := true) only [BmM_reachable, E3, EV, EW, CT, ev_o, ev_is, ev_gd, List.length_cons, List.length_nil, Nat.reduceLT, Nat.reduceAdd, Nat.reduceEqDiff, Nat.reduceLeDiff, Int32.reduceLT, Int32.reduceLE, reduceIte, true_and, and_true, true_or, or_true, not_true_eq_false, not_false_eq_true, false_imp_iff, true_imp_iff, implies_true]
            exact hQ 0 ⟨h0, .inr ⟨rfl, nev⟩⟩
    · have c1 := hno i (by omega) c
      have L0 : ((-1 : Int32) < 0) = True := by decide
      simp (decide := true) only [BmM_reachable, h45, h73, E1, v1, L0, c1, nI_clamp (n := i) (by omega), nI_1, EV, EW, CT, ev_o, ev_is, ev_gd, List.length_cons, List.length_nil, Nat.reduceLT, Nat.reduceAdd, Nat.reduceEqDiff, Nat.reduceLeDiff, Int32.reduceLT, Int32.reduceLE, reduceIte, true_and, and_true, true_or, or_true, not_true_eq_false, not_false_eq_true, false_imp_iff, true_imp_iff, implies_true]
      exact ih (i + 1) (by omega) (no fun z => c ⟨z.1, z.2.1⟩)
set_option maxHeartbeats 16000000 in
theorem mre_round {w : cx_W} {n : Nat} {gt : Nat → Prop} {q pl d : Nat → Nat} {s lt st : Nat → Nat → Nat} {oc : Nat} {os ol ob : Nat → Nat} {pa dl ch gr so la_ fr sl : Nat → Int32} {sr : Nat → Int64} {x0 x1 x2 x4 x5 x6 x7 x8 x9 : Int32} {F S : Nat → Nat → Nat} {P : Nat} {Q : cx_Q} (hW : RmW w n gt q pl d s lt st oc os ol ob pa dl ch gr so la_ sr) (hH : rt_H (EE gt pl s lt) gt d n) (hF : rt_FW (EE gt pl s lt) d n F S n) (h45 : w 45 = oM x0 x1 x2 (nI n) x4 x5 x6 x7 x8 x9) (h79 : w 79 = ai 2304 fr) (h80 : w 80 = ai 2304 sl) (hM : MxR n fr sl F S) (hP : P ≤ 30001000)
    (hQ : ∀ (w1 : cx_W) (mr : Nat → Int32) (r : Nat → Nat) (mo : Int32), w1 81 = ai 48 mr → (∀ k, ¬ k = 81 → w1 k = w k) → MvR mr r → (∀ u, r u ≤ 1000000) → ReA (EE gt pl s lt) (II gt pl s lt) gt d n P r mo → Q (some (.int mo)) w1 (87, 0, 0)) :
    ∀ (m t : Nat) (w1 : cx_W) (mr : Nat → Int32) (r : Nat → Nat) (mo : Int32), t + m = 50 → w1 81 = ai 48 mr → (∀ k, ¬ k = 81 → w1 k = w k) → MvR mr r → ReI n gt (rt_R gt d F S P) r mo t →
    cx_OK none mM_reachable 9 0 0 Q 25 [some (.ref 45), some (.int (nI P)), some (.int mo), some (.int (nI t))] [] w1 (87, 0, 0) := by
  have hn := hW.1.1
  have last : ∀ (t : Nat) (w1 : cx_W) (mr : Nat → Int32) (r : Nat → Nat), t ≤ 50 → w1 81 = ai 48 mr → (∀ k, ¬ k = 81 → w1 k = w k) → MvR mr r → ReI n gt (rt_R gt d F S P) r 0 t → cx_OK none mM_reachable 9 0 0 Q 49 [some (.ref 45), some (.int (nI P)), some (.int 0), some (.int (nI 0))] [] w1 (87, 0, 0) := fun t w1 mr r ht h81 hk hv hI =>
    mre_last (w := w1) (hW.of fun k z => hk k (by omega)) ((hk 45 (by decide)).trans h45) h81 hv (fun u => by have := hI.1 u; omega) hI.2.1 (ReI_least hH hF hI) (fun mo h => hQ w1 mr r mo h81 hk hv (fun u => by have := hI.1 u; omega) h) 192 0 (by omega) (fun g p _ _ h => by omega)
  intro m
  induction m with
  | zero =>
    intro t w1 mr r mo hm h81 hk hv hI
    have e : t = 50 := by omega
    subst e
    have E1 : ((50 : Int32) ≤ nI 50) = True := by decide
    refine cx_run 100 mM_reachable_mo ?_
    simp (decide := true) only [BmM_reachable, E1, EV, EW, CT, ev_o, ev_is, ev_gd, List.length_cons, List.length_nil, Nat.reduceLT, Nat.reduceAdd, Nat.reduceEqDiff, Nat.reduceLeDiff, Int32.reduceLT, Int32.reduceLE, reduceIte, true_and, and_true, true_or, or_true, not_true_eq_false, not_false_eq_true, false_imp_iff, true_imp_iff, implies_true]
    rcases hI.2.2.2 with ⟨e, _⟩ | ⟨e, _⟩
    · subst e
      exact last 50 w1 mr r (by omega) h81 hk hv hI
    · subst e
      have nev := ReI_never (I := II gt pl s lt) hH hF hI (by omega)
      refine cx_run 100 mM_reachable_mo ?_
      simp (decide := true) only [BmM_reachable, EV, EW, CT, ev_o, ev_is, ev_gd, List.length_cons, List.length_nil, Nat.reduceLT, Nat.reduceAdd, Nat.reduceEqDiff, Nat.reduceLeDiff, Int32.reduceLT, Int32.reduceLE, reduceIte, true_and, and_true, true_or, or_true, not_true_eq_false, not_false_eq_true, false_imp_iff, true_imp_iff, implies_true]
      exact hQ w1 mr r 0 h81 hk hv (fun u => by have := hI.1 u; omega) ⟨hI.2.1, .inr ⟨rfl, nev⟩⟩
  | succ m ih =>
    intro t w1 mr r mo hm h81 hk hv hI
    have E1 : ((50 : Int32) ≤ nI t) = False := (lek (a := t) (c := 50) (x := 50) rfl (by omega) (by decide)).trans (eq_false (by omega))
    refine cx_run 100 mM_reachable_mo ?_
    rcases hI.2.2.2 with ⟨e, _⟩ | ⟨e, _⟩
    · subst e
      simp (decide := true) only [BmM_reachable, E1, EV, EW, CT, ev_o, ev_is, ev_gd, List.length_cons, List.length_nil, Nat.reduceLT, Nat.reduceAdd, Nat.reduceEqDiff, Nat.reduceLeDiff, Int32.reduceLT, Int32.reduceLE, reduceIte, true_and, and_true, true_or, or_true, not_true_eq_false, not_false_eq_true, false_imp_iff, true_imp_iff, implies_true]
      exact last t w1 mr r (by omega) h81 hk hv hI
    · subst e
      have k45 := (hk 45 (by decide)).trans h45
      simp (decide := true) only [BmM_reachable, k45, E1, EV, EW, CT, ev_o, ev_is, ev_gd, List.length_cons, List.length_nil, Nat.reduceLT, Nat.reduceAdd, Nat.reduceEqDiff, Nat.reduceLeDiff, Int32.reduceLT, Int32.reduceLE, reduceIte, true_and, and_true, true_or, or_true, not_true_eq_false, not_false_eq_true, false_imp_iff, true_imp_iff, implies_true]
      refine cx_cs1 8 0 0 (by decide) (c_M_raise (dd := 7) (B := 2304 * t) (hW.of fun k z => hk k (by omega)) k45 ((hk 79 (by decide)).trans h79) ((hk 80 (by decide)).trans h80) h81 hM hP (by omega) hv hI.1) fun r_ w2 h => ?_
      obtain ⟨mr2, r2, mo2, rfl, h1, h2, h3, h4, h5⟩ := h
      simp (decide := true) only [BmM_reachable, nI_1, EV, EW, CT, ev_o, ev_is, ev_gd, List.length_cons, List.length_nil, Nat.reduceLT, Nat.reduceAdd, Nat.reduceEqDiff, Nat.reduceLeDiff, Int32.reduceLT, Int32.reduceLE, reduceIte, true_and, and_true, true_or, or_true, not_true_eq_false, not_false_eq_true, false_imp_iff, true_imp_iff, implies_true]
      have mo01 : mo2 = 0 ∨ mo2 = 1 := h4.2.2.2.elim (fun z => .inl z.1) (fun z => .inr z.1)
      exact ih (t + 1) w2 mr2 r2 mo2 (by omega) h1 (fun k z => (h2 k z).trans (hk k z)) h3 (ReI_step rt_R_gt hH.2.2 hI h4 h5)
set_option maxHeartbeats 16000000 in
theorem mre_zero {w : cx_W} {P : Nat} {Q : cx_Q} {x0 x1 x2 x3 x4 x5 x6 x7 x8 x9 : Int32} (h45 : w 45 = oM x0 x1 x2 x3 x4 x5 x6 x7 x8 x9) (hQ : ∀ (w1 : cx_W) (mr : Nat → Int32), w1 81 = ai 48 mr → (∀ k, ¬ k = 81 → w1 k = w k) → MvR mr (fun _ => 0) → cx_OK none mM_reachable 9 0 0 Q 25 [some (.ref 45), some (.int (nI P)), some (.int 1), some (.int (nI 0))] [] w1 (87, 0, 0)) :
    ∀ (m i : Nat) (w1 : cx_W) (mr : Nat → Int32) (l3 : Option Value), i + m = 48 → w1 81 = ai 48 mr → (∀ k, ¬ k = 81 → w1 k = w k) → (∀ j, j < i → mr j = 0) →
    cx_OK none mM_reachable 9 0 0 Q 2 [some (.ref 45), some (.int (nI P)), some (.int (nI i)), l3] [] w1 (87, 0, 0) := by
  intro m
  induction m with
  | zero =>
    intro i w1 mr l3 hm h81 hk hv
    have E1 : ((48 : Int32) ≤ nI i) = True := (lek (a := i) (c := 48) (x := 48) rfl (by omega) (by decide)).trans (eq_true (by omega))
    refine cx_run 100 mM_reachable_mo ?_
    simp (decide := true) only [BmM_reachable, E1, EV, EW, CT, ev_o, ev_is, ev_gd, List.length_cons, List.length_nil, Nat.reduceLT, Nat.reduceAdd, Nat.reduceEqDiff, Nat.reduceLeDiff, Int32.reduceLT, Int32.reduceLE, reduceIte, true_and, and_true, true_or, or_true, not_true_eq_false, not_false_eq_true, false_imp_iff, true_imp_iff, implies_true]
    exact hQ w1 mr h81 hk fun j hj => hv j (by omega)
  | succ m ih =>
    intro i w1 mr l3 hm h81 hk hv
    have E1 : ((48 : Int32) ≤ nI i) = False := (lek (a := i) (c := 48) (x := 48) rfl (by omega) (by decide)).trans (eq_false (by omega))
    have k45 := (hk 45 (by decide)).trans h45
    have v1 : vp_in (nI i) 48 := nI_in (by omega) (by decide)
    refine cx_run 100 mM_reachable_mo ?_
    simp (decide := true) only [BmM_reachable, k45, h81, E1, v1, nI_clamp (n := i) (by omega), nI_1, EV, EW, CT, ev_o, ev_is, ev_gd, List.length_cons, List.length_nil, Nat.reduceLT, Nat.reduceAdd, Nat.reduceEqDiff, Nat.reduceLeDiff, Int32.reduceLT, Int32.reduceLE, reduceIte, true_and, and_true, true_or, or_true, not_true_eq_false, not_false_eq_true, false_imp_iff, true_imp_iff, implies_true]
    refine ih (i + 1) _ (upd mr i 0) _ (by omega) (by simp only [cx_up, Nat.reduceEqDiff, reduceIte]) (fun k z => by rw [← hk k z]; simp (disch := omega) only [cx_up, if_neg]) fun j hj => ?_
    by_cases e : j = i
    · rw [e, pk_us]
    · rw [pk_un e]; exact hv j (by omega)
set_option maxHeartbeats 8000000 in
theorem c_M_reachable {w : cx_W} {n : Nat} {gt : Nat → Prop} {q pl d : Nat → Nat} {s lt st : Nat → Nat → Nat} {oc : Nat} {os ol ob : Nat → Nat} {pa dl ch gr so la_ fr sl mr0 : Nat → Int32} {sr : Nat → Int64} {x0 x1 x2 x4 x5 x6 x7 x8 x9 : Int32} {F S : Nat → Nat → Nat} {P : Nat} (hW : RmW w n gt q pl d s lt st oc os ol ob pa dl ch gr so la_ sr) (hH : rt_H (EE gt pl s lt) gt d n) (hF : rt_FW (EE gt pl s lt) d n F S n) (h45 : w 45 = oM x0 x1 x2 (nI n) x4 x5 x6 x7 x8 x9) (h79 : w 79 = ai 2304 fr) (h80 : w 80 = ai 2304 sl) (h81 : w 81 = ai 48 mr0) (hM : MxR n fr sl F S) (hP : P ≤ 30001000) :
    cx_MC mM_reachable 9 0 0 [.ref 45, .int (nI P)] w 87 (fun r_ w2 => ∃ (mr : Nat → Int32) (r : Nat → Nat) (mo : Int32), r_ = some (.int mo) ∧ w2 81 = ai 48 mr ∧ (∀ k, ¬ k = 81 → w2 k = w k) ∧ MvR mr r ∧ (∀ u, r u ≤ 1000000) ∧ ReA (EE gt pl s lt) (II gt pl s lt) gt d n P r mo) := by
  refine cx_met 60 mM_reachable_ok rfl ?_
  show cx_vc 60 none mM_reachable 9 0 0 _ _ 0 [some (.ref 45), some (.int (nI P)), none, none] [] w (87, 0, 0)
  simp (decide := true) only [BmM_reachable, EV, EW, CT, ev_o, ev_is, ev_gd, List.length_cons, List.length_nil, Nat.reduceLT, Nat.reduceAdd, Nat.reduceEqDiff, Nat.reduceLeDiff, Int32.reduceLT, Int32.reduceLE, reduceIte, true_and, and_true, true_or, or_true, not_true_eq_false, not_false_eq_true, false_imp_iff, true_imp_iff, implies_true]
  refine mre_zero (w := w) h45 (fun w1 mr a b c => ?_) 48 0 w mr0 _ (by omega) h81 (fun _ _ => rfl) (fun j h => by omega)
  refine mre_round (w := w) hW hH hF h45 h79 h80 hM hP (fun w2 mr2 r2 mo2 a2 b2 c2 d2 e2 => ⟨mr2, r2, mo2, rfl, a2, b2, c2, d2, e2⟩) 50 0 w1 mr (fun _ => 0) 1 (by omega) a b c ⟨fun u => Nat.zero_le _, fun _ _ => rfl, fun s hs u hu => hs.1 u hu, .inr ⟨rfl, fun l _ => Nat.zero_le _⟩⟩
