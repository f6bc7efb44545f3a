/-! Clocking the moved circuit: the reference's side. Own work. -/
def addK (KN : Nat → Prop) (g j : Nat) : Prop := j = g ∨ KN j
def nxr (v : Nat → Bool) (s kc kr : Nat → Nat → Nat) (g p : Nat) : Nat := (2 * kr g p + (v (s g p)).toNat) % 2 ^ kc g p
def nxo (v : Nat → Bool) (os ok okr : Nat → Nat) (o : Nat) : Nat := (2 * okr o + (v (os o)).toNat) % 2 ^ ok o
/-- what is known so far -/
def KnS (w w1 : cx_W) (n : Nat) (In KN : Nat → Prop) (v : Nat → Bool) : Prop :=
  (∃ kn sg op : Nat → Int32, w1 84 = az 48 kn ∧ w1 85 = ai 48 sg ∧ w1 86 = ai 8 op ∧ (∀ k, frK k → w1 k = w k) ∧ BR n kn KN ∧ ∀ j, j < n → KN j → sg j = nI (v j).toNat) ∧ ∀ j, In j → KN j
def RkI (gt KN0 KN : Nat → Prop) (pl : Nat → Nat) (s kc : Nat → Nat → Nat) (n : Nat) (mo : Int32) (i : Nat) : Prop :=
  (∀ j, KN0 j → KN j) ∧ ((mo = 0 ∧ KN = KN0 ∧ ∀ g, gt g → g < i → KN g ∨ ¬ ∀ p, p < pl g → avP KN s kc g p) ∨ (mo = 1 ∧ rt_cnt KN0 n < rt_cnt KN n))
theorem RkI_keep {gt KN0 KN : Nat → Prop} {pl : Nat → Nat} {s kc : Nat → Nat → Nat} {n : Nat} {mo : Int32} {i : Nat} (h : RkI gt KN0 KN pl s kc n mo i) (hg : gt i → KN i ∨ ¬ ∀ p, p < pl i → avP KN s kc i p) : RkI gt KN0 KN pl s kc n mo (i + 1) := by
  refine ⟨h.1, h.2.imp (fun ⟨a, b, c⟩ => ⟨a, b, fun g gg hi => ?_⟩) id⟩
  by_cases e : g = i
  · rw [e]; exact hg (e ▸ gg)
  · exact c g gg (by omega)
theorem RkI_add {gt KN0 KN : Nat → Prop} {pl : Nat → Nat} {s kc : Nat → Nat → Nat} {n : Nat} {mo : Int32} {i : Nat} (h : RkI gt KN0 KN pl s kc n mo i) (hi : i < n) (hk : ¬ KN i) : RkI gt KN0 (addK KN i) pl s kc n 1 (i + 1) := by
  have h1 : rt_cnt KN0 n ≤ rt_cnt KN n := rt_cnt_mono fun j _ => h.1 j
  have h2 : rt_cnt KN n < rt_cnt (addK KN i) n := rt_cnt_lt (j := i) (fun j _ z => .inr z) hi (.inl rfl) hk
  exact ⟨fun j z => .inr (h.1 j z), .inr ⟨rfl, by omega⟩⟩
set_option maxHeartbeats 16000000 in
theorem mcr_in {w : cx_W} {n : Nat} {gt In KN0 : Nat → Prop} {q pl d : Nat → Nat} {s lt st kc kr : Nat → Nat → Nat} {oc : Nat} {os ol ob ok okr : Nat → Nat} {pa dl ch gr so la_ kp : Nat → Int32} {sr pr : Nat → Int64} {x0 x1 x2 x4 x5 x6 x7 x8 x9 inp : Int32} {cv : Nat → Nat → Bool} {v : Nat → Bool} {Q : cx_Q} (hW : RmW w n gt q pl d s lt st oc os ol ob pa dl ch gr so la_ sr) (h45 : w 45 = oM x0 x1 x2 (nI n) x4 x5 x6 x7 x8 x9) (h76 : w 76 = ai 196 kp) (h78 : w 78 = al 196 pr) (hkp : KpR gt pl oc kp kc ok) (hpr : PrR gt pl oc pr kc kr ok okr) (hcv : ∀ g, gt g → ∀ b, b < 2 ^ pl g → wkP (q g) b = (cv g b).toNat) (hval : ∀ g, gt g → v g = cv g (pb (fun p => rt_ar v (s g p) (kc g p) (kr g p)) (pl g)))
    (hQ : ∀ (w2 : cx_W) (KN : Nat → Prop) (mo : Int32) (l3 l4 : Option Value), KnS w w2 n In KN v → RkI gt KN0 KN pl s kc n mo n → cx_OK none mM_clockRetimed 12 0 0 Q 73 [some (.ref 45), some (.int inp), some (.int mo), l3, l4] [] w2 (87, 0, 0)) :
    ∀ (k i : Nat) (w1 : cx_W) (KN : Nat → Prop) (mo : Int32) (l4 : Option Value), i + k = n → KnS w w1 n In KN v → RkI gt KN0 KN pl s kc n mo i →
    cx_OK none mM_clockRetimed 12 0 0 Q 81 [some (.ref 45), some (.int inp), some (.int mo), some (.int (nI i)), l4] [] w1 (87, 0, 0) := by
  have hn := hW.1.1
  have hB := hW.2.1
  have h70 := hW.1.2.2.2.2.2.1
  intro k
  induction k with
  | zero =>
    intro i w1 KN mo l4 hi hS hI
    have e : i = n := by omega
    subst e
    have E := leT (a := i) (b := i) (by omega) (by omega)
    obtain ⟨⟨kn, sg, op, h84, h85, h86, hk, hK, hsg⟩, hin⟩ := id hS
    have k45 := (hk 45 (by decide)).trans h45
    refine cx_run 100 mM_clockRetimed_mo ?_
    simp (decide := true) only [BmM_clockRetimed, k45, E, EV, EW, CT, ev_o, ev_is, ev_gd, List.length_cons, List.length_nil, Nat.reduceLT, Nat.reduceAdd, Nat.reduceEqDiff, Nat.reduceLeDiff, Int32.reduceLT, Int32.reduceLE, reduceIte, true_and, and_true, true_or, or_true, not_true_eq_false, not_false_eq_true, false_imp_iff, true_imp_iff, implies_true]
    exact hQ w1 KN mo _ _ hS hI
  | succ k ih =>
    intro i w1 KN mo l4 hi hS hI
    have E := leF (a := n) (b := i) (by omega) (by omega)
    obtain ⟨⟨kn, sg, op, h84, h85, h86, hk, hK, hsg⟩, hin⟩ := id hS
    have k45 := (hk 45 (by decide)).trans h45
    have k70 := (hk 70 (by decide)).trans h70
    have vi : vp_in (nI i) 48 := nI_in (by omega) (by decide)
    have mo01 : mo = 0 ∨ mo = 1 := hI.2.imp (fun z => z.1) (fun z => z.1)
    refine cx_run 100 mM_clockRetimed_mo ?_
    by_cases g : gt i
    · have B1 : gr i = 1 := (hB _ (by omega)).1 g
      by_cases kk : KN i
      · have B2 : kn i = 1 := (hK _ (by omega)).1 kk
        have nx := RkI_keep hI fun _ => .inl kk
        rcases mo01 with e | e
        · subst e
          simp (decide := true) only [BmM_clockRetimed, k45, k70, h84, E, vi, B1, B2, nI_1, nI_clamp (n := i) (by omega), EV, EW, CT, ev_o, ev_is, ev_gd, List.length_cons, List.length_nil, Nat.reduceLT, Nat.reduceAdd, Nat.reduceEqDiff, Nat.reduceLeDiff, Int32.reduceLT, Int32.reduceLE, reduceIte, true_and, and_true, true_or, or_true, not_true_eq_false, not_false_eq_true, false_imp_iff, true_imp_iff, implies_true]
          exact ih (i + 1) w1 KN 0 _ (by omega) hS nx
        · subst e
          simp (decide := true) only [BmM_clockRetimed, k45, k70, h84, E, vi, B1, B2, nI_1, nI_clamp (n := i) (by omega), EV, EW, CT, ev_o, ev_is, ev_gd, List.length_cons, List.length_nil, Nat.reduceLT, Nat.reduceAdd, Nat.reduceEqDiff, Nat.reduceLeDiff, Int32.reduceLT, Int32.reduceLE, reduceIte, true_and, and_true, true_or, or_true, not_true_eq_false, not_false_eq_true, false_imp_iff, true_imp_iff, implies_true]
          exact ih (i + 1) w1 KN 1 _ (by omega) hS nx
      · have B2 : kn i = 0 := (hK _ (by omega)).2 kk
        simp (decide := true) only [BmM_clockRetimed, k45, k70, h84, E, vi, B1, B2, nI_clamp (n := i) (by omega), EV, EW, CT, ev_o, ev_is, ev_gd, List.length_cons, List.length_nil, Nat.reduceLT, Nat.reduceAdd, Nat.reduceEqDiff, Nat.reduceLeDiff, Int32.reduceLT, Int32.reduceLE, reduceIte, true_and, and_true, true_or, or_true, not_true_eq_false, not_false_eq_true, false_imp_iff, true_imp_iff, implies_true]
        refine cx_cs1 9 0 0 (by decide) (c_M_worked (g := i) (KN := KN) (v := v) (hW.of fun k z => hk k (by unfold frK; omega)) k45 ((hk 76 (by decide)).trans h76) ((hk 78 (by decide)).trans h78) h84 h85 h86 hkp hpr hK hsg g (hcv i g) (hval i g) (fun _ _ => rfl)) fun r_ w2 h => ?_
        rcases h with ⟨rfl, b1, b2, b3, ⟨op2, b4⟩, b5⟩ | ⟨rfl, rfl, b1⟩
        · have S2 : KnS w w2 n In (addK KN i) v := by
            refine ⟨⟨upd kn i 1, upd sg i (nI (v i).toNat), op2, b2, b3, b4, fun k z => (b5 k z).trans (hk k z), fun j hj => ?_, fun j hj z => ?_⟩, fun j z => .inr (hin j z)⟩
            · by_cases e : j = i
              · rw [e, pk_us]; exact ⟨fun _ => rfl, fun z => absurd (.inl rfl) z⟩
              · rw [pk_un e]; exact ⟨fun z => (hK j hj).1 (z.resolve_left e), fun z => (hK j hj).2 fun y => z (.inr y)⟩
            · by_cases e : j = i
              · rw [e, pk_us]
              · rw [pk_un e]; exact hsg j hj (z.resolve_left e)
          simp (decide := true) only [BmM_clockRetimed, nI_1, EV, EW, CT, ev_o, ev_is, ev_gd, List.length_cons, List.length_nil, Nat.reduceLT, Nat.reduceAdd, Nat.reduceEqDiff, Nat.reduceLeDiff, Int32.reduceLT, Int32.reduceLE, reduceIte, true_and, and_true, true_or, or_true, not_true_eq_false, not_false_eq_true, false_imp_iff, true_imp_iff, implies_true]
          exact ih (i + 1) w2 (addK KN i) 1 _ (by omega) S2 (RkI_add hI (by omega) kk)
        · have nx := RkI_keep hI fun _ => .inr b1
          rcases mo01 with e | e
          · subst e
            simp (decide := true) only [BmM_clockRetimed, nI_1, EV, EW, CT, ev_o, ev_is, ev_gd, List.length_cons, List.length_nil, Nat.reduceLT, Nat.reduceAdd, Nat.reduceEqDiff, Nat.reduceLeDiff, Int32.reduceLT, Int32.reduceLE, reduceIte, true_and, and_true, true_or, or_true, not_true_eq_false, not_false_eq_true, false_imp_iff, true_imp_iff, implies_true]
            exact ih (i + 1) w2 KN 0 _ (by omega) hS nx
          · subst e
            simp (decide := true) only [BmM_clockRetimed, nI_1, EV, EW, CT, ev_o, ev_is, ev_gd, List.length_cons, List.length_nil, Nat.reduceLT, Nat.reduceAdd, Nat.reduceEqDiff, Nat.reduceLeDiff, Int32.reduceLT, Int32.reduceLE, reduceIte, true_and, and_true, true_or, or_true, not_true_eq_false, not_false_eq_true, false_imp_iff, true_imp_iff, implies_true]
            exact ih (i + 1) w2 KN 1 _ (by omega) hS nx
    · have B1 : gr i = 0 := (hB _ (by omega)).2 g
      have nx := RkI_keep hI fun z => absurd z g
      rcases mo01 with e | e
      · subst e
        simp (decide := true) only [BmM_clockRetimed, k45, k70, E, vi, B1, nI_1, nI_clamp (n := i) (by omega), EV, EW, CT, ev_o, ev_is, ev_gd, List.length_cons, List.length_nil, Nat.reduceLT, Nat.reduceAdd, Nat.reduceEqDiff, Nat.reduceLeDiff, Int32.reduceLT, Int32.reduceLE, reduceIte, true_and, and_true, true_or, or_true, not_true_eq_false, not_false_eq_true, false_imp_iff, true_imp_iff, implies_true]
        exact ih (i + 1) w1 KN 0 _ (by omega) hS nx
      · subst e
        simp (decide := true) only [BmM_clockRetimed, k45, k70, E, vi, B1, nI_1, nI_clamp (n := i) (by omega), EV, EW, CT, ev_o, ev_is, ev_gd, List.length_cons, List.length_nil, Nat.reduceLT, Nat.reduceAdd, Nat.reduceEqDiff, Nat.reduceLeDiff, Int32.reduceLT, Int32.reduceLE, reduceIte, true_and, and_true, true_or, or_true, not_true_eq_false, not_false_eq_true, false_imp_iff, true_imp_iff, implies_true]
        exact ih (i + 1) w1 KN 1 _ (by omega) hS nx
set_option maxHeartbeats 16000000 in
theorem mcr_rounds {w : cx_W} {n : Nat} {gt In : Nat → Prop} {q pl d : Nat → Nat} {s lt st kc kr : Nat → Nat → Nat} {oc : Nat} {os ol ob ok okr : Nat → Nat} {pa dl ch gr so la_ kp : Nat → Int32} {sr pr : Nat → Int64} {x0 x1 x2 x4 x5 x6 x7 x8 x9 inp : Int32} {cv : Nat → Nat → Bool} {v : Nat → Bool} {key : Nat → Nat} {Q : cx_Q} (hW : RmW w n gt q pl d s lt st oc os ol ob pa dl ch gr so la_ sr) (h45 : w 45 = oM x0 x1 x2 (nI n) x4 x5 x6 x7 x8 x9) (h76 : w 76 = ai 196 kp) (h78 : w 78 = al 196 pr) (hkp : KpR gt pl oc kp kc ok) (hpr : PrR gt pl oc pr kc kr ok okr) (hcv : ∀ g, gt g → ∀ b, b < 2 ^ pl g → wkP (q g) b = (cv g b).toNat) (hval : ∀ g, gt g → v g = cv g (pb (fun p => rt_ar v (s g p) (kc g p) (kr g p)) (pl g)))
    (hkey : ∀ g p, gt g → p < pl g → gt (s g p) → kc g p = 0 → key (s g p) < key g) (hsrc : ∀ g p, gt g → p < pl g → gt (s g p) ∨ In (s g p))
    (hQ : ∀ (w2 : cx_W) (KN : Nat → Prop), KnS w w2 n In KN v → (∀ g, gt g → KN g) → cx_OK none mM_clockRetimed 12 0 0 Q 139 [some (.ref 45), some (.int inp), some (.int 0), some (.int (nI 0)), some (.int (nI 0))] [] w2 (87, 0, 0)) :
    ∀ (f : Nat) (w1 : cx_W) (KN : Nat → Prop) (l3 l4 : Option Value), n < rt_cnt KN n + f → KnS w w1 n In KN v →
    cx_OK none mM_clockRetimed 12 0 0 Q 73 [some (.ref 45), some (.int inp), some (.int 1), l3, l4] [] w1 (87, 0, 0) := by
  have hn := hW.1.1
  have hgn : ∀ g, gt g → g < n := fun g hg => (hW.2.2.1 g hg).1
  intro f
  induction f with
  | zero =>
    intro w1 KN l3 l4 hf hS
    have := rt_cnt_le KN n
    omega
  | succ f ih =>
    intro w1 KN l3 l4 hf hS
    refine cx_run 100 mM_clockRetimed_mo ?_
    simp (decide := true) only [BmM_clockRetimed, EV, EW, CT, ev_o, ev_is, ev_gd, List.length_cons, List.length_nil, Nat.reduceLT, Nat.reduceAdd, Nat.reduceEqDiff, Nat.reduceLeDiff, Int32.reduceLT, Int32.reduceLE, reduceIte, true_and, and_true, true_or, or_true, not_true_eq_false, not_false_eq_true, false_imp_iff, true_imp_iff, implies_true]
    refine mcr_in (w := w) (KN0 := KN) (In := In) hW h45 h76 h78 hkp hpr hcv hval (fun w2 KN2 mo l3 l4 hS2 hI2 => ?_) n 0 w1 KN 0 _ (by omega) hS ⟨fun _ z => z, .inl ⟨rfl, rfl, fun g _ h => by omega⟩⟩
    rcases hI2.2 with ⟨e, _, c⟩ | ⟨e, hlt⟩
    · subst e
      have hd : ∀ g, gt g → KN2 g := fun g0 gg0 => Classical.byContradiction fun hne => by
        obtain ⟨g, gg, hk, hp⟩ := rt_prog2 (pl := KN2) hkey ⟨g0, gg0, hne⟩
        refine (c g gg (hgn g gg)).elim hk fun y => y fun p hp2 => ?_
        unfold avP
        by_cases z : kc g p = 0
        · refine .inr ((hsrc g p gg hp2).elim (fun gs => hp p hp2 gs z) (fun gi => hS2.2 _ gi))
        · exact .inl z
      refine cx_run 100 mM_clockRetimed_mo ?_
      simp (decide := true) only [BmM_clockRetimed, EV, EW, CT, ev_o, ev_is, ev_gd, List.length_cons, List.length_nil, Nat.reduceLT, Nat.reduceAdd, Nat.reduceEqDiff, Nat.reduceLeDiff, Int32.reduceLT, Int32.reduceLE, reduceIte, true_and, and_true, true_or, or_true, not_true_eq_false, not_false_eq_true, false_imp_iff, true_imp_iff, implies_true]
      exact hQ w2 KN2 hS2 hd
    · subst e
      exact ih w2 KN2 _ _ (by omega) hS2
set_option maxHeartbeats 16000000 in
theorem mcr_init {w : cx_W} {n : Nat} {x0 x1 x2 x4 x5 x6 x7 x8 x9 inp : Int32} {so kd no op : Nat → Int32} {v : Nat → Bool} {Q : cx_Q} (hn : n ≤ 48) (h45 : w 45 = oM x0 x1 x2 (nI n) x4 x5 x6 x7 x8 x9) (h46 : w 46 = ai 40 so) (h56 : w 56 = ai 48 kd) (h59 : w 59 = ai 48 no) (h86 : w 86 = ai 8 op) (hin : ∀ m, m < n → kd m = 0 → ∃ i : Nat, i ≤ 40 ∧ no m = nI i ∧ nI (v m).toNat = inp >>> (nI (cI so i) &&& 31) &&& 1)
    (hQ : ∀ (w2 : cx_W) (l3 l4 : Option Value), KnS w w2 n (fun j => j < n ∧ kd j = 0) (fun j => j < n ∧ kd j = 0) v → cx_OK none mM_clockRetimed 12 0 0 Q 73 [some (.ref 45), some (.int inp), some (.int 1), l3, l4] [] w2 (87, 0, 0)) :
    ∀ (k i : Nat) (w1 : cx_W) (kn sg : Nat → Int32) (l3 l4 : Option Value), i + k = n → w1 84 = az 48 kn → w1 85 = ai 48 sg → (∀ k, ¬ k = 84 ∧ ¬ k = 85 → w1 k = w k) → (∀ j, j < i → (kd j = 0 → kn j = 1 ∧ sg j = nI (v j).toNat) ∧ (¬ kd j = 0 → kn j = 0)) →
    cx_OK none mM_clockRetimed 12 0 0 Q 12 [some (.ref 45), some (.int inp), some (.int (nI i)), l3, l4] [] w1 (87, 0, 0) := by
  intro k
  induction k with
  | zero =>
    intro i w1 kn sg l3 l4 hi h84 h85 hk hv
    have e : i = n := by omega
    subst e
    have E := leT (a := i) (b := i) (by omega) (by omega)
    have k45 := (hk 45 (by decide)).trans h45
    refine cx_run 100 mM_clockRetimed_mo ?_
    simp (decide := true) only [BmM_clockRetimed, k45, E, EV, EW, CT, ev_o, ev_is, ev_gd, List.length_cons, List.length_nil, Nat.reduceLT, Nat.reduceAdd, Nat.reduceEqDiff, Nat.reduceLeDiff, Int32.reduceLT, Int32.reduceLE, reduceIte, true_and, and_true, true_or, or_true, not_true_eq_false, not_false_eq_true, false_imp_iff, true_imp_iff, implies_true]
    exact hQ w1 _ _ ⟨⟨kn, sg, op, h84, h85, (hk 86 (by decide)).trans h86, fun k z => hk k ⟨z.1, z.2.1⟩, fun j hj => ⟨fun z => ((hv j hj).1 z.2).1, fun z => (hv j hj).2 fun y => z ⟨hj, y⟩⟩, fun j hj z => ((hv j hj).1 z.2).2⟩, fun _ z => z⟩
  | succ k ih =>
    intro i w1 kn sg l3 l4 hi h84 h85 hk hv
    have E := leF (a := n) (b := i) (by omega) (by omega)
    have k45 := (hk 45 (by decide)).trans h45
    have k56 := (hk 56 (by decide)).trans h56
    have vi : vp_in (nI i) 48 := nI_in (by omega) (by decide)
    refine cx_run 100 mM_clockRetimed_mo ?_
    by_cases z : kd i = 0
    · obtain ⟨j, j1, j2, j3⟩ := hin i (by omega) z
      have Z : (kd i = 0) = True := eq_true z
      simp (decide := true) only [BmM_clockRetimed, k45, k56, h84, h85, E, vi, Z, pk_us, nI_clamp (n := i) (by omega), EV, EW, CT, ev_o, ev_is, ev_gd, List.length_cons, List.length_nil, Nat.reduceLT, Nat.reduceAdd, Nat.reduceEqDiff, Nat.reduceLeDiff, Int32.reduceLT, Int32.reduceLE, reduceIte, true_and, and_true, true_or, or_true, not_true_eq_false, not_false_eq_true, false_imp_iff, true_imp_iff, implies_true]
      refine cx_cs1 11 0 0 (by decide) (c_M_entering (dd := 11) (m := i) (i := j) (so := so) (no := no) (inp := inp) (by simp only [cx_up, Nat.reduceEqDiff, reduceIte]; exact k45) (by simp only [cx_up, Nat.reduceEqDiff, reduceIte]; exact (hk 46 (by decide)).trans h46) (by simp only [cx_up, Nat.reduceEqDiff, reduceIte]; exact (hk 59 (by decide)).trans h59) (by omega) j2 j1) fun r_ w2 h => ?_
      obtain ⟨rfl, rfl⟩ := h
      rw [← j3]
      have k45b : cx_up w1 84 (az 48 (upd kn i 1)) 45 = oM x0 x1 x2 (nI n) x4 x5 x6 x7 x8 x9 := by simp only [cx_up, Nat.reduceEqDiff, reduceIte]; exact k45
      have k85b : cx_up w1 84 (az 48 (upd kn i 1)) 85 = ai 48 sg := by simp only [cx_up, Nat.reduceEqDiff, reduceIte]; exact h85
      simp (decide := true) only [BmM_clockRetimed, k45b, k85b, vi, nI_1, nI_clamp (n := i) (by omega), EV, EW, CT, ev_o, ev_is, ev_gd, List.length_cons, List.length_nil, Nat.reduceLT, Nat.reduceAdd, Nat.reduceEqDiff, Nat.reduceLeDiff, Int32.reduceLT, Int32.reduceLE, reduceIte, true_and, and_true, true_or, or_true, not_true_eq_false, not_false_eq_true, false_imp_iff, true_imp_iff, implies_true]
      refine ih (i + 1) _ (upd kn i 1) (upd sg i (nI (v i).toNat)) _ _ (by omega) (by simp only [cx_up, Nat.reduceEqDiff, reduceIte]) (by simp only [cx_up, Nat.reduceEqDiff, reduceIte]) (fun k y => by rw [← hk k y]; simp (disch := omega) only [cx_up, if_neg]) fun j hj => ?_
      by_cases e : j = i
      · rw [e, pk_us, pk_us]; exact ⟨fun _ => ⟨rfl, rfl⟩, fun y => absurd z y⟩
      · rw [pk_un e, pk_un e]; exact hv j (by omega)
    · have Z : (kd i = 0) = False := eq_false z
      simp (decide := true) only [BmM_clockRetimed, k45, k56, h84, h85, E, vi, Z, pk_us, nI_1, nI_clamp (n := i) (by omega), EV, EW, CT, ev_o, ev_is, ev_gd, List.length_cons, List.length_nil, Nat.reduceLT, Nat.reduceAdd, Nat.reduceEqDiff, Nat.reduceLeDiff, Int32.reduceLT, Int32.reduceLE, reduceIte, true_and, and_true, true_or, or_true, not_true_eq_false, not_false_eq_true, false_imp_iff, true_imp_iff, implies_true]
      refine ih (i + 1) _ (upd kn i 0) (upd sg i 0) _ _ (by omega) (by simp only [cx_up, Nat.reduceEqDiff, reduceIte]) (by simp only [cx_up, Nat.reduceEqDiff, reduceIte]) (fun k y => by rw [← hk k y]; simp (disch := omega) only [cx_up, if_neg]) fun j hj => ?_
      by_cases e : j = i
      · rw [e, pk_us, pk_us]; exact ⟨fun y => absurd y z, fun _ => rfl⟩
      · rw [pk_un e, pk_un e]; exact hv j (by omega)
set_option maxHeartbeats 16000000 in
theorem mcr_outs {w : cx_W} {oc : Nat} {os ok okr : Nat → Nat} {so kp sg : Nat → Int32} {pr : Nat → Int64} {x0 x1 x2 x3 x5 x6 x7 x8 x9 inp : Int32} {v f : Nat → Bool} {Q : cx_Q} (hoc : oc ≤ 4) (h45 : w 45 = oM x0 x1 x2 x3 (nI oc) x5 x6 x7 x8 x9) (h73 : w 73 = ai 196 so) (h76 : w 76 = ai 196 kp) (h78 : w 78 = al 196 pr) (h85 : w 85 = ai 48 sg) (ho : ∀ o, o < oc → kp (192 + o) = nI (ok o) ∧ ok o ≤ 53 ∧ pr (192 + o) = lN (okr o) ∧ okr o < 2 ^ ok o ∧ so (192 + o) = nI (os o) ∧ os o < 48 ∧ sg (os o) = nI (v (os o)).toNat) (hf : ∀ o, o < oc → f o = rt_ar v (os o) (ok o) (okr o))
    (hQ : cx_OK none mM_clockRetimed 12 0 0 Q 173 [some (.ref 45), some (.int inp), some (.int 0), some (.int (nI (pb f oc))), some (.int (nI 0))] [] w (87, 0, 0)) :
    ∀ (k i : Nat), i + k = oc → cx_OK none mM_clockRetimed 12 0 0 Q 139 [some (.ref 45), some (.int inp), some (.int 0), some (.int (nI (pb f i))), some (.int (nI i))] [] w (87, 0, 0) := by
  intro k
  induction k with
  | zero =>
    intro i hi
    have e : i = oc := by omega
    subst e
    have E := leT (a := i) (b := i) (by omega) (by omega)
    refine cx_run 100 mM_clockRetimed_mo ?_
    simp (decide := true) only [BmM_clockRetimed, h45, E, EV, EW, CT, ev_o, ev_is, ev_gd, List.length_cons, List.length_nil, Nat.reduceLT, Nat.reduceAdd, Nat.reduceEqDiff, Nat.reduceLeDiff, Int32.reduceLT, Int32.reduceLE, reduceIte, true_and, and_true, true_or, or_true, not_true_eq_false, not_false_eq_true, false_imp_iff, true_imp_iff, implies_true]
    exact hQ
  | succ k ih =>
    intro i hi
    have E := leF (a := oc) (b := i) (by omega) (by omega)
    obtain ⟨a1, a2, a3, a4, a5, a6, a7⟩ := ho i (by omega)
    have A1 : (192 : Int32) + nI i = nI (192 + i) := nI_add 192 i
    have ve : vp_in (nI (192 + i)) 196 := nI_in (by omega) (by decide)
    have vs : vp_in (nI (os i)) 48 := nI_in (by omega) (by decide)
    have PB := pb_or (f := f) (k := i) (by omega)
    have fp := hf i (by omega)
    refine cx_run 160 mM_clockRetimed_mo ?_
    by_cases c : ok i = 0
    · rw [c] at a1 fp
      have B2 : sg (os i) = nI (f i).toNat := by
        rw [a7, fp]
        unfold rt_ar
        rw [if_pos rfl]
      simp (decide := true) only [BmM_clockRetimed, BmM_ending, h45, h73, h76, h85, ve, vs, E, A1, B2, PB, a1, a5, nI_1, nI_clamp (n := 192 + i) (by omega), nI_clamp (n := os i) (by omega), EV, EW, CT, ev_o, ev_is, ev_gd, List.length_cons, List.length_nil, Nat.reduceLT, Nat.reduceAdd, Nat.reduceEqDiff, Nat.reduceLeDiff, Int32.reduceLT, Int32.reduceLE, reduceIte, true_and, and_true, true_or, or_true, not_true_eq_false, not_false_eq_true, false_imp_iff, true_imp_iff, implies_true]
      exact ih (i + 1) (by omega)
    · obtain ⟨k', hk'⟩ : ∃ k', ok i = k' + 1 := ⟨ok i - 1, by omega⟩
      rw [hk'] at a1 a2 a4 fp
      have E3 : (nI (k' + 1) ≤ 0) = False := leF (a := k' + 1) (b := 0) (by omega) (by omega)
      have B := en_bit (sv := os i) (v := v) a2 a4
      rw [← fp] at B
      simp (decide := true) only [BmM_clockRetimed, BmM_ending, h45, h76, h78, ve, E, E3, A1, B, PB, a1, a3, nI_pred, nI_1, nI_clamp (n := 192 + i) (by omega), EV, EW, CT, ev_o, ev_is, ev_gd, List.length_cons, List.length_nil, Nat.reduceLT, Nat.reduceAdd, Nat.reduceEqDiff, Nat.reduceLeDiff, Int32.reduceLT, Int32.reduceLE, reduceIte, true_and, and_true, true_or, or_true, not_true_eq_false, not_false_eq_true, false_imp_iff, true_imp_iff, implies_true]
      exact ih (i + 1) (by omega)
set_option maxHeartbeats 16000000 in
theorem mcr_shift {w : cx_W} {n : Nat} {gt In : Nat → Prop} {q pl d : Nat → Nat} {s lt st kc kr : Nat → Nat → Nat} {oc : Nat} {os ol ob ok okr : Nat → Nat} {pa dl ch gr so la_ kp sg : Nat → Int32} {sr pr : Nat → Int64} {x0 x1 x2 x3 x4 x5 x6 x7 x8 x9 inp ans : Int32} {v : Nat → Bool} {Q : cx_Q} (hW : RmW w n gt q pl d s lt st oc os ol ob pa dl ch gr so la_ sr) (h45 : w 45 = oM x0 x1 x2 x3 x4 x5 x6 x7 x8 x9) (h76 : w 76 = ai 196 kp) (h78 : w 78 = al 196 pr) (h85 : w 85 = ai 48 sg) (hkp : KpR gt pl oc kp kc ok) (hpr : PrR gt pl oc pr kc kr ok okr) (hsg : ∀ g p, gt g → p < pl g → sg (s g p) = nI (v (s g p)).toNat) (hso : ∀ o, o < oc → sg (os o) = nI (v (os o)).toNat)
    (hQ : ∀ (w2 : cx_W) (pr2 : Nat → Int64), w2 78 = al 196 pr2 → (∀ k, ¬ k = 78 → w2 k = w k) → PrR gt pl oc pr2 kc (nxr v s kc kr) ok (nxo v os ok okr) → Q (some (.int ans)) w2 (87, 0, 0)) :
    ∀ (k i : Nat) (w1 : cx_W) (pr1 : Nat → Int64), i + k = 196 → w1 78 = al 196 pr1 → (∀ k, ¬ k = 78 → w1 k = w k) → (∀ e, i ≤ e → pr1 e = pr e) → (∀ g p, gt g → p < pl g → 4 * g + p < i → pr1 (4 * g + p) = lN (nxr v s kc kr g p)) → (∀ o, o < oc → 192 + o < i → pr1 (192 + o) = lN (nxo v os ok okr o)) →
    cx_OK none mM_clockRetimed 12 0 0 Q 173 [some (.ref 45), some (.int inp), some (.int 0), some (.int ans), some (.int (nI i))] [] w1 (87, 0, 0) := by
  have hpl := pl4 hW
  obtain ⟨⟨hn, hoc, h61, h63, h68, h70, h73, h74, h75⟩, hB, hgd, hd, hcn, hno, hon, hoo⟩ := hW
  intro k
  induction k with
  | zero =>
    intro i w1 pr1 hi g78 hk hf hg ho
    have e : i = 196 := by omega
    subst e
    have E : ((196 : Int32) ≤ nI 196) = True := by decide
    refine cx_run 120 mM_clockRetimed_mo ?_
    simp (decide := true) only [BmM_clockRetimed, E, EV, EW, CT, ev_o, ev_is, ev_gd, List.length_cons, List.length_nil, Nat.reduceLT, Nat.reduceAdd, Nat.reduceEqDiff, Nat.reduceLeDiff, Int32.reduceLT, Int32.reduceLE, reduceIte, true_and, and_true, true_or, or_true, not_true_eq_false, not_false_eq_true, false_imp_iff, true_imp_iff, implies_true]
    refine hQ w1 pr1 g78 hk ⟨fun g p gg hp => ⟨hg g p gg hp ?_, Nat.mod_lt _ (Nat.two_pow_pos _)⟩, fun o h => ⟨ho o h (by omega), Nat.mod_lt _ (Nat.two_pow_pos _)⟩⟩
    have := hpl g gg
    have := (hgd g gg).1
    omega
  | succ k ih =>
    intro i w1 pr1 hi g78 hk hf hg ho
    have E : ((196 : Int32) ≤ nI i) = False := (lek (a := i) (c := 196) (x := 196) rfl (by omega) (by decide)).trans (eq_false (by omega))
    have k45 := (hk 45 (by decide)).trans h45
    have k73 := (hk 73 (by decide)).trans h73
    have k76 := (hk 76 (by decide)).trans h76
    have k85 := (hk 85 (by decide)).trans h85
    have vi : vp_in (nI i) 196 := nI_in (by omega) (by decide)
    -- after this connection
    have next : ∀ (w3 : cx_W) (pr3 : Nat → Int64), w3 78 = al 196 pr3 → (∀ k, ¬ k = 78 → w3 k = w k) → (∀ e, ¬ e = i → pr3 e = pr1 e) → (i < 192 → gt (i / 4) → i % 4 < pl (i / 4) → pr3 i = lN (nxr v s kc kr (i / 4) (i % 4))) → (192 ≤ i → i - 192 < oc → pr3 i = lN (nxo v os ok okr (i - 192))) →
        cx_OK none mM_clockRetimed 12 0 0 Q 173 [some (.ref 45), some (.int inp), some (.int 0), some (.int ans), some (.int (nI (i + 1)))] [] w3 (87, 0, 0) := by
      intro w3 pr3 a1 a2 a3 a4 a5
      refine ih (i + 1) w3 pr3 (by omega) a1 a2 (fun e he => (a3 e (by omega)).trans (hf e (by omega))) (fun g p gg hp h => ?_) (fun o h h2 => ?_)
      · have := hpl g gg
        have := (hgd g gg).1
        by_cases e : 4 * g + p = i
        · have e1 : i / 4 = g := by omega
          have e2 : i % 4 = p := by omega
          rw [e1, e2] at a4
          rw [e]
          exact a4 (by omega) gg hp
        · rw [a3 _ e]; exact hg g p gg hp (by omega)
      · by_cases e : 192 + o = i
        · have e1 : i - 192 = o := by omega
          rw [e1] at a5
          rw [e]
          exact a5 (by omega) h
        · rw [a3 _ e]; exact ho o h (by omega)
    have fi := hf i (Nat.le_refl _)
    -- one connection that is there
    have main : ∀ (sv kk row : Nat), so i = nI sv → sv < 48 → kp i = nI kk → kk ≤ 53 → pr i = lN row → row < 2 ^ kk → sg sv = nI (v sv).toNat → (i < 192 → gt (i / 4) → i % 4 < pl (i / 4) → (2 * row + (v sv).toNat) % 2 ^ kk = nxr v s kc kr (i / 4) (i % 4)) → (192 ≤ i → i - 192 < oc → (2 * row + (v sv).toNat) % 2 ^ kk = nxo v os ok okr (i - 192)) →
        cx_OK none mM_clockRetimed 12 0 0 Q 173 [some (.ref 45), some (.int inp), some (.int 0), some (.int ans), some (.int (nI i))] [] w1 (87, 0, 0) := by
      intro sv kk row e1 hsv e2 hkk e3 hrow e4 y1 y2
      have L0 : (nI sv < 0) = False := eq_false (nI_pos (by omega))
      have vs : vp_in (nI sv) 48 := nI_in hsv (by decide)
      rw [e3] at fi
      refine cx_run 120 mM_clockRetimed_mo ?_
      by_cases c : kk = 0
      · subst c
        simp (decide := true) only [BmM_clockRetimed, k45, k73, k76, vi, E, L0, e1, e2, nI_1, nI_clamp (n := i) (by omega), EV, EW, CT, ev_o, ev_is, ev_gd, List.length_cons, List.length_nil, Nat.reduceLT, Nat.reduceAdd, Nat.reduceEqDiff, Nat.reduceLeDiff, Int32.reduceLT, Int32.reduceLE, reduceIte, true_and, and_true, true_or, or_true, not_true_eq_false, not_false_eq_true, false_imp_iff, true_imp_iff, implies_true]
        have r0 : row = 0 := by omega
        subst r0
        exact next w1 pr1 g78 hk (fun _ _ => rfl) (fun a b c => by rw [fi, ← y1 a b c]; rw [Nat.pow_zero, Nat.mod_one]) (fun a b => by rw [fi, ← y2 a b]; rw [Nat.pow_zero, Nat.mod_one])
      · have E2 : (nI kk ≤ 0) = False := leF (a := kk) (b := 0) (by omega) (by omega)
        have LP := l_push (a := row) (b := (v sv).toNat) (by cases v sv <;> decide)
        have LM : lN (2 * row + (v sv).toNat) &&& ((1 : Int32).toInt64 <<< ((nI kk).toInt64 &&& 63) - (1 : Int32).toInt64) = lN ((2 * row + (v sv).toNat) % 2 ^ kk) := l_mask (by omega)
        simp (decide := true) only [BmM_clockRetimed, k45, k73, k76, k85, g78, vi, vs, E, E2, L0, e1, e2, e4, fi, LP, LM, nI_1, nI_clamp (n := i) (by omega), nI_clamp (n := sv) (by omega), EV, EW, CT, ev_o, ev_is, ev_gd, List.length_cons, List.length_nil, Nat.reduceLT, Nat.reduceAdd, Nat.reduceEqDiff, Nat.reduceLeDiff, Int32.reduceLT, Int32.reduceLE, reduceIte, true_and, and_true, true_or, or_true, not_true_eq_false, not_false_eq_true, false_imp_iff, true_imp_iff, implies_true]
        exact next _ (vp_updL pr1 i (lN ((2 * row + (v sv).toNat) % 2 ^ kk))) (by simp only [cx_up, Nat.reduceEqDiff, reduceIte]) (fun k z => by rw [← hk k z]; simp (disch := omega) only [cx_up, if_neg]) (fun e he => pk_uLn he) (fun a b c => by rw [pk_uLs, y1 a b c]) (fun a b => by rw [pk_uLs, y2 a b])
    by_cases c : i < 192
    · by_cases c2 : gt (i / 4) ∧ i % 4 < pl (i / 4)
      · have hc := hcn (i / 4) (i % 4) c2.1 c2.2
        have hc2 := hkp.1 (i / 4) (i % 4) c2.1 c2.2
        have hc3 := hpr.1 (i / 4) (i % 4) c2.1 c2.2
        rw [show 4 * (i / 4) + i % 4 = i from Nat.div_add_mod i 4] at hc hc2 hc3
        obtain ⟨c1, _, _, c5, _, _⟩ := hc
        exact main _ _ _ c1 (by omega) hc2.1 hc2.2 hc3.1 hc3.2 (hsg _ _ c2.1 c2.2) (fun _ _ _ => rfl) (fun a _ => by omega)
      · have c1 := hno i c c2
        have L0 : ((-1 : Int32) < 0) = True := by decide
        refine cx_run 120 mM_clockRetimed_mo ?_
        simp (decide := true) only [BmM_clockRetimed, k45, k73, vi, E, c1, L0, nI_1, nI_clamp (n := i) (by omega), EV, EW, CT, ev_o, ev_is, ev_gd, List.length_cons, List.length_nil, Nat.reduceLT, Nat.reduceAdd, Nat.reduceEqDiff, Nat.reduceLeDiff, Int32.reduceLT, Int32.reduceLE, reduceIte, true_and, and_true, true_or, or_true, not_true_eq_false, not_false_eq_true, false_imp_iff, true_imp_iff, implies_true]
        exact next w1 pr1 g78 hk (fun _ _ => rfl) (fun _ a b => absurd ⟨a, b⟩ c2) (fun a _ => by omega)
    · by_cases c2 : i - 192 < oc
      · have hc := hon (i - 192) c2
        have hc2 := hkp.2 (i - 192) c2
        have hc3 := hpr.2 (i - 192) c2
        rw [show 192 + (i - 192) = i by omega] at hc hc2 hc3
        obtain ⟨c1, _, _, c5, _, _⟩ := hc
        exact main _ _ _ c1 (by omega) hc2.1 hc2.2 hc3.1 hc3.2 (hso _ c2) (fun a _ _ => absurd a c) (fun _ _ => rfl)
      · have c1 := hoo i (by omega) (by omega)
        have L0 : ((-1 : Int32) < 0) = True := by decide
        refine cx_run 120 mM_clockRetimed_mo ?_
        simp (decide := true) only [BmM_clockRetimed, k45, k73, vi, E, c1, L0, nI_1, nI_clamp (n := i) (by omega), EV, EW, CT, ev_o, ev_is, ev_gd, List.length_cons, List.length_nil, Nat.reduceLT, Nat.reduceAdd, Nat.reduceEqDiff, Nat.reduceLeDiff, Int32.reduceLT, Int32.reduceLE, reduceIte, true_and, and_true, true_or, or_true, not_true_eq_false, not_false_eq_true, false_imp_iff, true_imp_iff, implies_true]
        exact next w1 pr1 g78 hk (fun _ _ => rfl) (fun a _ _ => absurd a c) (fun _ b => absurd b c2)
set_option maxHeartbeats 8000000 in
theorem c_M_clockRetimed {w : cx_W} {n : Nat} {gt : Nat → Prop} {q pl d : Nat → Nat} {s lt st kc kr : Nat → Nat → Nat} {oc : Nat} {os ol ob ok okr : Nat → Nat} {pa dl ch gr so la_ kp kd no st_ kn sg op : Nat → Int32} {sr pr : Nat → Int64} {x0 x1 x2 x5 x7 x8 x9 inp : Int32} {cv : Nat → Nat → Bool} {v : Nat → Bool} {key : Nat → Nat} (hW : RmW w n gt q pl d s lt st oc os ol ob pa dl ch gr so la_ sr) (h45 : w 45 = oM x0 x1 x2 (nI n) (nI oc) x5 1 x7 x8 x9) (h46 : w 46 = ai 40 st_) (h56 : w 56 = ai 48 kd) (h59 : w 59 = ai 48 no) (h76 : w 76 = ai 196 kp) (h78 : w 78 = al 196 pr) (h84 : w 84 = az 48 kn) (h85 : w 85 = ai 48 sg) (h86 : w 86 = ai 8 op) (hkp : KpR gt pl oc kp kc ok) (hpr : PrR gt pl oc pr kc kr ok okr) (hcv : ∀ g, gt g → ∀ b, b < 2 ^ pl g → wkP (q g) b = (cv g b).toNat) (hval : ∀ g, gt g → v g = cv g (pb (fun p => rt_ar v (s g p) (kc g p) (kr g p)) (pl g)))
    (hkey : ∀ g p, gt g → p < pl g → gt (s g p) → kc g p = 0 → key (s g p) < key g) (hsrc : ∀ g p, gt g → p < pl g → gt (s g p) ∨ kd (s g p) = 0) (hosr : ∀ o, o < oc → gt (os o) ∨ kd (os o) = 0) (hin : ∀ m, m < n → kd m = 0 → ∃ i : Nat, i ≤ 40 ∧ no m = nI i ∧ nI (v m).toNat = inp >>> (nI (cI st_ i) &&& 31) &&& 1) :
    cx_MC mM_clockRetimed 12 0 0 [.ref 45, .int inp] w 87 (fun r_ w2 => r_ = some (.int (nI (pb (fun o => rt_ar v (os o) (ok o) (okr o)) oc))) ∧ (∃ pr2, w2 78 = al 196 pr2 ∧ PrR gt pl oc pr2 kc (nxr v s kc kr) ok (nxo v os ok okr)) ∧ (∃ kn sg op : Nat → Int32, w2 84 = az 48 kn ∧ w2 85 = ai 48 sg ∧ w2 86 = ai 8 op) ∧ ∀ k, ¬ k = 78 ∧ frK k → w2 k = w k) := by
  have hn := hW.1.1
  have hoc := hW.1.2.1
  have hcn := hW.2.2.2.2.1
  have hon := hW.2.2.2.2.2.2.1
  have hgn : ∀ g, gt g → g < n := fun g hg => (hW.2.2.1 g hg).1
  refine cx_met 60 mM_clockRetimed_ok rfl ?_
  show cx_vc 60 none mM_clockRetimed 12 0 0 _ _ 0 [some (.ref 45), some (.int inp), none, none, none] [] w (87, 0, 0)
  simp (decide := true) only [BmM_clockRetimed, h45, EV, EW, CT, ev_o, ev_is, ev_gd, List.length_cons, List.length_nil, Nat.reduceLT, Nat.reduceAdd, Nat.reduceEqDiff, Nat.reduceLeDiff, Int32.reduceLT, Int32.reduceLE, reduceIte, true_and, and_true, true_or, or_true, not_true_eq_false, not_false_eq_true, false_imp_iff, true_imp_iff, implies_true]
  refine mcr_init (w := w) (so := st_) (v := v) hn h45 h46 h56 h59 h86 hin (fun w2 l3 l4 hS => ?_) n 0 w kn sg _ _ (by omega) h84 h85 (fun _ _ => rfl) (fun j h => by omega)
  refine mcr_rounds (w := w) (In := fun j => j < n ∧ kd j = 0) (key := key) hW h45 h76 h78 hkp hpr hcv hval hkey (fun g p gg hp => (hsrc g p gg hp).imp id fun z => ⟨(hcn g p gg hp).2.2.2.1, z⟩) (fun w3 KN hS3 hall => ?_) (n + 1) w2 _ _ _ (by omega) hS
  obtain ⟨⟨kn3, sg3, op3, a84, a85, a86, hk, hK, hsg⟩, hin3⟩ := hS3
  have known : ∀ j, j < n → (gt j ∨ kd j = 0) → sg3 j = nI (v j).toNat := fun j hj z => hsg j hj (z.elim (fun g => hall j g) (fun y => hin3 j ⟨hj, y⟩))
  have hW3 := hW.of (w1 := w3) fun k z => hk k (by unfold frK; omega)
  have k45 := (hk 45 (by decide)).trans h45
  have k76 := (hk 76 (by decide)).trans h76
  have k78 := (hk 78 (by decide)).trans h78
  refine mcr_outs (w := w3) (os := os) (ok := ok) (okr := okr) (v := v) hoc k45 hW3.1.2.2.2.2.2.2.1 k76 k78 a85 (fun o ho => ⟨(hkp.2 o ho).1, (hkp.2 o ho).2, (hpr.2 o ho).1, (hpr.2 o ho).2, (hon o ho).1, by have := (hon o ho).2.2.2.1; omega, known _ (hon o ho).2.2.2.1 (hosr o ho)⟩) (f := fun o => rt_ar v (os o) (ok o) (okr o)) (fun _ _ => rfl) ?_ oc 0 (by omega)
  refine mcr_shift (w := w3) (v := v) (In := gt) hW3 k45 k76 k78 a85 hkp hpr (fun g p gg hp => known _ (hcn g p gg hp).2.2.2.1 (hsrc g p gg hp)) (fun o ho => known _ (hon o ho).2.2.2.1 (hosr o ho)) (fun w4 pr4 b1 b2 b3 => ⟨rfl, ⟨pr4, b1, b3⟩, ⟨kn3, sg3, op3, (b2 84 (by decide)).trans a84, (b2 85 (by decide)).trans a85, (b2 86 (by decide)).trans a86⟩, fun k z => (b2 k z.1).trans (hk k z.2)⟩) 196 0 w3 pr (by omega) k78 (fun _ _ => rfl) (fun _ _ => rfl) (fun _ _ _ _ h => by omega) (fun _ _ h => by omega)
