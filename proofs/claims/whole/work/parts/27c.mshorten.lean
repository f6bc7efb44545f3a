/-! Shortening: the reference's side. Own work. -/
theorem rt_F_first {E : Nat → Nat → Nat → Prop} {I : Nat → Nat → Prop} {gt : Nat → Prop} {d : Nat → Nat} {n : Nat} {F S : Nat → Nat → Nat} {P : Nat} (hH : rt_H E gt d n) (h48 : ∀ u, gt u → u < 48) (hF : rt_FW E d n F S n) (hP : PbI gt d F S P 2304) : rt_F E I gt d n P := by
  refine ⟨fun _ => 0, rt_C_of_R hH hF ⟨fun _ _ => Int.le_refl _, fun u v k hk => ?_⟩, fun _ w _ => by show (0 : Int) ≤ (w : Int); omega⟩
  obtain ⟨gu, gv, hf, rfl⟩ := hk
  show (0 : Int) ≤ (0 : Int) + ((F u v : Int) - (if (P : Int) < ((S u v + d v : Nat) : Int) then 1 else 0))
  by_cases e : F u v = 0
  · have hu := h48 u gu
    have hv := h48 v gv
    have := hP.1 u v gu gv (by omega) e
    rw [if_neg (by omega)]
    omega
  · split <;> omega
set_option maxHeartbeats 16000000 in
theorem mso_loop {w : cx_W} {n : Nat} {gt : Nat → Prop} {q pl d : Nat → Nat} {s lt st : Nat → Nat → Nat} {oc : Nat} {os ol ob : Nat → Nat} {pa dl ch gr so la_ fr sl : Nat → Int32} {sr : Nat → Int64} {x0 x1 x2 x4 x5 x6 x7 x8 x9 : Int32} {F S : Nat → Nat → Nat} {Q : cx_Q} (hW : RmW w n gt q pl d s lt st oc os ol ob pa dl ch gr so la_ sr) (hH : rt_H (EE gt pl s lt) gt d n) (hF : rt_FW (EE gt pl s lt) d n F S n) (h45 : w 45 = oM x0 x1 x2 (nI n) x4 x5 x6 x7 x8 x9) (h79 : w 79 = ai 2304 fr) (h80 : w 80 = ai 2304 sl) (hM : MxR n fr sl F S)
    (hQ : ∀ (w1 : cx_W) (mr : Nat → Int32) (r : Nat → Nat) (P : Nat), w1 45 = oM x0 x1 x2 (nI n) x4 x5 1 x7 x8 (nI P) → w1 81 = ai 48 mr → (∀ k, ¬ k = 81 ∧ ¬ k = 45 → w1 k = w k) → MvR mr r → (∀ u, ¬ gt u → r u = 0) → P ≤ 30001000 → rt_B (EE gt pl s lt) (II gt pl s lt) gt d n P (fun u => (r u : Int)) → Q none w1 (87, 0, 0)) :
    ∀ (m lo hi : Nat) (w1 : cx_W) (mr : Nat → Int32) (l3 : Option Value), hi - lo ≤ m → lo ≤ hi → hi ≤ 30001000 → w1 81 = ai 48 mr → (∀ k, ¬ k = 81 → w1 k = w k) → rt_F (EE gt pl s lt) (II gt pl s lt) gt d n hi → (lo = 0 ∨ ¬ rt_F (EE gt pl s lt) (II gt pl s lt) gt d n ((lo : Int) - 1)) →
    cx_OK none mM_shorten 10 0 0 Q 7 [some (.ref 45), some (.int (nI lo)), some (.int (nI hi)), l3] [] w1 (87, 0, 0) := by
  have fin : ∀ (lo : Nat) (w1 : cx_W) (mr : Nat → Int32) (l3 : Option Value), lo ≤ 30001000 → w1 81 = ai 48 mr → (∀ k, ¬ k = 81 → w1 k = w k) → rt_F (EE gt pl s lt) (II gt pl s lt) gt d n lo → (lo = 0 ∨ ¬ rt_F (EE gt pl s lt) (II gt pl s lt) gt d n ((lo : Int) - 1)) →
      cx_OK none mM_shorten 10 0 0 Q 7 [some (.ref 45), some (.int (nI lo)), some (.int (nI lo)), l3] [] w1 (87, 0, 0) := by
    intro lo w1 mr l3 hlo h81 hk hf hno
    have E1 := leT (a := lo) (b := lo) (by omega) (by omega)
    have k45 := (hk 45 (by decide)).trans h45
    refine cx_run 100 mM_shorten_mo ?_
    simp (decide := true) only [BmM_shorten, k45, E1, EV, EW, CT, ev_o, ev_is, ev_gd, List.length_cons, List.length_nil, Nat.reduceLT, Nat.reduceAdd, Nat.reduceEqDiff, Nat.reduceLeDiff, Int32.reduceLT, Int32.reduceLE, reduceIte, true_and, and_true, true_or, or_true, not_true_eq_false, not_false_eq_true, false_imp_iff, true_imp_iff, implies_true]
    refine cx_cs1 9 0 0 (by decide) (c_M_reachable (n := n) (gt := gt) (q := q) (pl := pl) (d := d) (s := s) (lt := lt) (F := F) (S := S) (fr := fr) (sl := sl) (mr0 := mr) (P := lo) (hW.of fun k z => ?_) hH hF (by simp only [cx_up, Nat.reduceEqDiff, reduceIte]; rfl) (by simp only [cx_up, Nat.reduceEqDiff, reduceIte]; exact (hk 79 (by decide)).trans h79) (by simp only [cx_up, Nat.reduceEqDiff, reduceIte]; exact (hk 80 (by decide)).trans h80) (by simp only [cx_up, Nat.reduceEqDiff, reduceIte]; exact h81) hM hlo) fun r_ w2 h => ?_
    · rw [← hk k (by omega)]; simp (disch := omega) only [cx_up, if_neg]
    obtain ⟨mr2, r2, mo2, rfl, h1, h2, h3, h4, h5, h6⟩ := h
    have k45b := h2 45 (by decide)
    simp only [cx_up, Nat.reduceEqDiff, reduceIte] at k45b
    rcases h6 with ⟨rfl, hl, hi⟩ | ⟨_, hne⟩
    · simp (decide := true) only [BmM_shorten, k45b, EV, EW, CT, ev_o, ev_is, ev_gd, List.length_cons, List.length_nil, Nat.reduceLT, Nat.reduceAdd, Nat.reduceEqDiff, Nat.reduceLeDiff, Int32.reduceLT, Int32.reduceLE, reduceIte, true_and, and_true, true_or, or_true, not_true_eq_false, not_false_eq_true, false_imp_iff, true_imp_iff, implies_true]
      refine hQ _ mr2 r2 lo (by simp only [cx_up, Nat.reduceEqDiff, reduceIte]) (by simp only [cx_up, Nat.reduceEqDiff, reduceIte]; exact h1) (fun k z => ?_) h3 h5 hlo ⟨by omega, hl, hi, hno.imp (fun z => by omega) id⟩
      rw [← hk k z.1]
      have := h2 k z.1
      simp (disch := omega) only [cx_up, if_neg] at this ⊢
      exact this
    · exact absurd hf hne
  intro m
  induction m with
  | zero =>
    intro lo hi w1 mr l3 hm hle hhi h81 hk hf hno
    have e : hi = lo := by omega
    subst e
    exact fin hi w1 mr l3 hhi h81 hk hf hno
  | succ m ih =>
    intro lo hi w1 mr l3 hm hle hhi h81 hk hf hno
    by_cases e : hi = lo
    · subst e
      exact fin hi w1 mr l3 hhi h81 hk hf hno
    · have E1 := leF (a := hi) (b := lo) (by omega) (by omega)
      have k45 := (hk 45 (by decide)).trans h45
      have D := divK (a := lo + hi) (c := 2) (x := 2) rfl (by omega) (by decide)
      have hmid : lo ≤ (lo + hi) / 2 ∧ (lo + hi) / 2 < hi := by omega
      revert hmid D
      generalize (lo + hi) / 2 = mid
      intro D hmid
      refine cx_run 100 mM_shorten_mo ?_
      simp (decide := true) only [BmM_shorten, k45, E1, nI_add, D, EV, EW, CT, ev_o, ev_is, ev_gd, List.length_cons, List.length_nil, Nat.reduceLT, Nat.reduceAdd, Nat.reduceEqDiff, Nat.reduceLeDiff, Int32.reduceLT, Int32.reduceLE, reduceIte, true_and, and_true, true_or, or_true, not_true_eq_false, not_false_eq_true, false_imp_iff, true_imp_iff, implies_true]
      refine cx_cs1 9 0 0 (by decide) (c_M_reachable (P := mid) (hW.of fun k z => hk k (by omega)) hH hF k45 ((hk 79 (by decide)).trans h79) ((hk 80 (by decide)).trans h80) h81 hM (by omega)) fun r_ w2 h => ?_
      obtain ⟨mr2, r2, mo2, rfl, h1, h2, h3, h4, h5, h6⟩ := h
      rcases h6 with ⟨rfl, hl, hi2⟩ | ⟨rfl, hne⟩
      · simp (decide := true) only [BmM_shorten, EV, EW, CT, ev_o, ev_is, ev_gd, List.length_cons, List.length_nil, Nat.reduceLT, Nat.reduceAdd, Nat.reduceEqDiff, Nat.reduceLeDiff, Int32.reduceLT, Int32.reduceLE, reduceIte, true_and, and_true, true_or, or_true, not_true_eq_false, not_false_eq_true, false_imp_iff, true_imp_iff, implies_true]
        exact ih lo mid w2 mr2 _ (by omega) (by omega) (by omega) h1 (fun k z => (h2 k z).trans (hk k z)) ⟨_, hl.1, hi2⟩ hno
      · simp (decide := true) only [BmM_shorten, nI_1, EV, EW, CT, ev_o, ev_is, ev_gd, List.length_cons, List.length_nil, Nat.reduceLT, Nat.reduceAdd, Nat.reduceEqDiff, Nat.reduceLeDiff, Int32.reduceLT, Int32.reduceLE, reduceIte, true_and, and_true, true_or, or_true, not_true_eq_false, not_false_eq_true, false_imp_iff, true_imp_iff, implies_true]
        refine ih (mid + 1) hi w2 mr2 _ (by omega) (by omega) hhi h1 (fun k z => (h2 k z).trans (hk k z)) hf (.inr ?_)
        rw [show ((mid + 1 : Nat) : Int) - 1 = (mid : Int) by omega]
        exact hne
set_option maxHeartbeats 8000000 in
theorem c_M_shorten {w : cx_W} {n : Nat} {gt : Nat → Prop} {q pl d : Nat → Nat} {s lt st : Nat → Nat → Nat} {oc : Nat} {os ol ob : Nat → Nat} {pa dl ch gr so la_ fr sl mr0 : Nat → Int32} {sr : Nat → Int64} {x0 x1 x2 x4 x5 x6 x7 x9 : Int32} {F S : Nat → Nat → Nat} {Pb : Nat} (hW : RmW w n gt q pl d s lt st oc os ol ob pa dl ch gr so la_ sr) (hH : rt_H (EE gt pl s lt) gt d n) (hF : rt_FW (EE gt pl s lt) d n F S n) (h45 : w 45 = oM x0 x1 x2 (nI n) x4 x5 x6 x7 (nI Pb) x9) (h79 : w 79 = ai 2304 fr) (h80 : w 80 = ai 2304 sl) (h81 : w 81 = ai 48 mr0) (hM : MxR n fr sl F S) (hP : Pb ≤ 30001000) (hPb : PbI gt d F S Pb 2304) :
    cx_MC mM_shorten 10 0 0 [.ref 45] w 87 (fun r_ w2 => r_ = none ∧ ∃ (mr : Nat → Int32) (r : Nat → Nat) (P : Nat), w2 45 = oM x0 x1 x2 (nI n) x4 x5 1 x7 (nI Pb) (nI P) ∧ w2 81 = ai 48 mr ∧ (∀ k, ¬ k = 81 ∧ ¬ k = 45 → w2 k = w k) ∧ MvR mr r ∧ (∀ u, ¬ gt u → r u = 0) ∧ P ≤ 30001000 ∧ rt_B (EE gt pl s lt) (II gt pl s lt) gt d n P (fun u => (r u : Int))) := by
  have hn := hW.1.1
  refine cx_met 60 mM_shorten_ok rfl ?_
  show cx_vc 60 none mM_shorten 10 0 0 _ _ 0 [some (.ref 45), none, none, none] [] w (87, 0, 0)
  simp (decide := true) only [BmM_shorten, h45, EV, EW, CT, ev_o, ev_is, ev_gd, List.length_cons, List.length_nil, Nat.reduceLT, Nat.reduceAdd, Nat.reduceEqDiff, Nat.reduceLeDiff, Int32.reduceLT, Int32.reduceLE, reduceIte, true_and, and_true, true_or, or_true, not_true_eq_false, not_false_eq_true, false_imp_iff, true_imp_iff, implies_true]
  exact mso_loop (w := w) hW hH hF h45 h79 h80 hM (fun w1 mr r P a b c e f g h => ⟨rfl, mr, r, P, a, b, c, e, f, g, h⟩) Pb 0 Pb w mr0 _ (by omega) (by omega) hP h81 (fun _ _ => rfl) (rt_F_first hH (fun u hu => by have := hH.2.2 u hu; omega) hF hPb) (.inl rfl)
