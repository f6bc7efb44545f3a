/-! Clocking, the reference. Own work. -/
/-- how many of the first nets are inputs -/
def cI (so : Nat → Int32) : Nat → Nat
  | 0 => 0
  | k + 1 => cI so k + (if so k = 0 then 1 else 0)
theorem cI_le (so : Nat → Int32) (k : Nat) : cI so k ≤ k := by
  induction k with
  | zero => exact Nat.le_refl _
  | succ k ih => rw [cI]; split <;> omega
set_option maxHeartbeats 4000000 in
theorem ent_loop {w : cx_W} {m i : Nat} {x0 x1 x2 x3 x4 x5 x6 x7 x8 x9 inp : Int32} {so no : Nat → Int32} {dd : Nat} (h45 : w 45 = oM x0 x1 x2 x3 x4 x5 x6 x7 x8 x9) (h46 : w 46 = ai 40 so) (h59 : w 59 = ai 48 no) (hm : m < 48) (hi : no m = nI i) (hi40 : i ≤ 40) :
    ∀ (r j : Nat), j + r = i →
    cx_OK none mM_entering dd 0 0 (fun r w2 _ => r = some (.int (inp >>> (nI (cI so i) &&& 31) &&& 1)) ∧ w2 = w) 5 [some (.ref 45), some (.int (nI m)), some (.int inp), some (.int (nI (cI so j))), some (.int (nI j))] [] w (87, 0, 0) := by
  have v1 : vp_in (nI m) 48 := nI_in hm (by decide)
  intro r
  induction r with
  | zero =>
    intro j hj
    have e : j = i := by omega
    subst e
    have E := leT (a := j) (b := j) (by omega) (by omega)
    refine cx_run 60 mM_entering_mo ?_
    simp (decide := true) only [BmM_entering, h45, h59, v1, nI_clamp (n := m) (by omega), hi, E, EV, EW, CT, ev_o, ev_is, ev_gd, List.length_cons, List.length_nil, Nat.reduceLT, Nat.reduceAdd, Nat.reduceEqDiff, Nat.reduceLeDiff, Int32.reduceLT, Int32.reduceLE, reduceIte, true_and, and_true, true_or, or_true, not_true_eq_false, not_false_eq_true, false_imp_iff, true_imp_iff, implies_true]
  | succ r ih =>
    intro j hj
    have E := leF (a := i) (b := j) (by omega) (by omega)
    have v2 : vp_in (nI j) 40 := nI_in (by omega) (by decide)
    have nx := ih (j + 1) (by omega)
    refine cx_run 60 mM_entering_mo ?_
    by_cases q : so j = 0
    · rw [cI, if_pos q] at nx
      simp (decide := true) only [BmM_entering, h45, h46, h59, v1, v2, nI_clamp (n := m) (by omega), nI_clamp (n := j) (by omega), hi, E, q, nI_1, EV, EW, CT, ev_o, ev_is, ev_gd, List.length_cons, List.length_nil, Nat.reduceLT, Nat.reduceAdd, Nat.reduceEqDiff, Nat.reduceLeDiff, Int32.reduceLT, Int32.reduceLE, reduceIte, true_and, and_true, true_or, or_true, not_true_eq_false, not_false_eq_true, false_imp_iff, true_imp_iff, implies_true]
      exact nx
    · rw [cI, if_neg q, Nat.add_zero] at nx
      simp (decide := true) only [BmM_entering, h45, h46, h59, v1, v2, nI_clamp (n := m) (by omega), nI_clamp (n := j) (by omega), hi, E, q, nI_1, EV, EW, CT, ev_o, ev_is, ev_gd, List.length_cons, List.length_nil, Nat.reduceLT, Nat.reduceAdd, Nat.reduceEqDiff, Nat.reduceLeDiff, Int32.reduceLT, Int32.reduceLE, reduceIte, true_and, and_true, true_or, or_true, not_true_eq_false, not_false_eq_true, false_imp_iff, true_imp_iff, implies_true]
      exact nx
set_option maxHeartbeats 4000000 in
theorem c_M_entering {w : cx_W} {m i : Nat} {x0 x1 x2 x3 x4 x5 x6 x7 x8 x9 inp : Int32} {so no : Nat → Int32} {dd : Nat} (h45 : w 45 = oM x0 x1 x2 x3 x4 x5 x6 x7 x8 x9) (h46 : w 46 = ai 40 so) (h59 : w 59 = ai 48 no) (hm : m < 48) (hi : no m = nI i) (hi40 : i ≤ 40) :
    cx_MC mM_entering dd 0 0 [.ref 45, .int (nI m), .int inp] w 87 (fun r w2 => r = some (.int (inp >>> (nI (cI so i) &&& 31) &&& 1)) ∧ w2 = w) := by
  refine cx_met 60 mM_entering_ok rfl ?_
  show cx_vc 60 none mM_entering dd 0 0 _ _ 0 [some (.ref 45), some (.int (nI m)), some (.int inp), none, none] [] w (87, 0, 0)
  simp only [BmM_entering, EV, EW, CT, ev_o, ev_is, ev_gd, List.length_cons, List.length_nil, Nat.reduceLT, Nat.reduceAdd, Nat.reduceEqDiff, Nat.reduceLeDiff, Int32.reduceLT, Int32.reduceLE, reduceIte, true_and, and_true, true_or, or_true, not_true_eq_false, not_false_eq_true, false_imp_iff, true_imp_iff, implies_true]
  exact ent_loop h45 h46 h59 hm hi hi40 i 0 (by omega)
set_option maxHeartbeats 4000000 in
theorem mc_loop3 {w : cx_W} {nc : Nat} {x1 x2 x3 x4 x5 x6 x7 x8 x9 inp ans : Int32} {so dr vl : Nat → Int32} {nxt : Nat → Int32} {dd : Nat} {Q : cx_Q} (h45 : w 45 = oM (nI nc) x1 x2 x3 x4 x5 x6 x7 x8 x9) (h46 : w 46 = ai 40 so) (h50 : w 50 = ai 40 dr) (h55 : w 55 = ai 40 vl) (hnc : nc ≤ 40)
    (hx : ∀ i, i < nc → (so i = 1 → vp_in (dr i) 40 ∧ vl (dr i).toNatClampNeg = nxt i) ∧ (¬ so i = 1 → nxt i = 0)) (hQ : ∀ w2 nw, w2 49 = ai 40 nw → (∀ i, i < nc → nw i = nxt i) → (∀ k, ¬ k = 49 → w2 k = w k) → Q (some (.int ans)) w2 (87, 0, 0)) :
    ∀ (m i : Nat) (w1 : cx_W) (nw : Nat → Int32) (l4 : Option Value), i + m = nc → w1 49 = ai 40 nw → (∀ j, j < i → nw j = nxt j) → (∀ k, ¬ k = 49 → w1 k = w k) →
    cx_OK none mM_clock dd 0 0 Q 210 [some (.ref 45), some (.int inp), some (.int ans), some (.int (nI i)), l4] [] w1 (87, 0, 0) := by
  intro m
  induction m with
  | zero =>
    intro i w1 nw l4 hi h49 hw hk
    have e : i = nc := by omega
    subst e
    have k45 := (hk 45 (by decide)).trans h45
    have E := leT (a := i) (b := i) (by omega) (by omega)
    refine cx_run 60 mM_clock_mo ?_
    simp (decide := true) only [BmM_clock, k45, E, EV, EW, CT, ev_o, ev_is, ev_gd, List.length_cons, List.length_nil, Nat.reduceLT, Nat.reduceAdd, Nat.reduceEqDiff, Nat.reduceLeDiff, Int32.reduceLT, Int32.reduceLE, reduceIte, true_and, and_true, true_or, or_true, not_true_eq_false, not_false_eq_true, false_imp_iff, true_imp_iff, implies_true]
    exact hQ w1 nw h49 hw hk
  | succ m ih =>
    intro i w1 nw l4 hi h49 hw hk
    have k45 := (hk 45 (by decide)).trans h45
    have k46 := (hk 46 (by decide)).trans h46
    have k50 := (hk 50 (by decide)).trans h50
    have k55 := (hk 55 (by decide)).trans h55
    have E := leF (a := nc) (b := i) (by omega) (by omega)
    have v1 : vp_in (nI i) 40 := nI_in (by omega) (by decide)
    have nx : cx_OK none mM_clock dd 0 0 Q 210 [some (.ref 45), some (.int inp), some (.int ans), some (.int (nI (i + 1))), l4] [] (cx_up w1 49 (ai 40 (upd nw i (nxt i)))) (87, 0, 0) :=
      ih (i + 1) _ (upd nw i (nxt i)) l4 (by omega) (by simp only [cx_up, Nat.reduceEqDiff, reduceIte]) (fun j hj => by
        by_cases e : j = i
        · rw [e, pk_us]
        · rw [pk_un e]; exact hw j (by omega)) (fun k q => by rw [← hk k q]; simp (disch := omega) only [cx_up, if_neg])
    have ⟨a, b⟩ := hx i (by omega)
    refine cx_run 60 mM_clock_mo ?_
    by_cases q : so i = 1
    · have ⟨a1, a2⟩ := a q
      simp (decide := true) only [BmM_clock, k45, k46, k50, k55, h49, E, v1, a1, a2, nI_clamp (n := i) (by omega), q, nI_1, EV, EW, CT, ev_o, ev_is, ev_gd, List.length_cons, List.length_nil, Nat.reduceLT, Nat.reduceAdd, Nat.reduceEqDiff, Nat.reduceLeDiff, Int32.reduceLT, Int32.reduceLE, reduceIte, true_and, and_true, true_or, or_true, not_true_eq_false, not_false_eq_true, false_imp_iff, true_imp_iff, implies_true]
      exact nx
    · rw [b q] at nx
      simp (decide := true) only [BmM_clock, k45, k46, k50, k55, h49, E, v1, nI_clamp (n := i) (by omega), q, nI_1, EV, EW, CT, ev_o, ev_is, ev_gd, List.length_cons, List.length_nil, Nat.reduceLT, Nat.reduceAdd, Nat.reduceEqDiff, Nat.reduceLeDiff, Int32.reduceLT, Int32.reduceLE, reduceIte, true_and, and_true, true_or, or_true, not_true_eq_false, not_false_eq_true, false_imp_iff, true_imp_iff, implies_true]
      exact nx
set_option maxHeartbeats 4000000 in
theorem mc_loop2 {w : cx_W} {nc oc : Nat} {x1 x2 x3 x5 x6 x7 x8 x9 inp : Int32} {on vl : Nat → Int32} {f : Nat → Bool} {dd : Nat} {Q : cx_Q} (h45 : w 45 = oM (nI nc) x1 x2 x3 (nI oc) x5 x6 x7 x8 x9) (h55 : w 55 = ai 40 vl) (h60 : w 60 = ai 4 on) (hoc : oc ≤ 4)
    (hx : ∀ o, o < oc → vp_in (on o) 40 ∧ vl (on o).toNatClampNeg = nI (f o).toNat) (hQ : ∀ l4, cx_OK none mM_clock dd 0 0 Q 210 [some (.ref 45), some (.int inp), some (.int (nI (pb f oc))), some (.int (nI 0)), l4] [] w (87, 0, 0)) :
    ∀ (m o : Nat) (l4 : Option Value), o + m = oc →
    cx_OK none mM_clock dd 0 0 Q 178 [some (.ref 45), some (.int inp), some (.int (nI (pb f o))), some (.int (nI o)), l4] [] w (87, 0, 0) := by
  intro m
  induction m with
  | zero =>
    intro o l4 ho
    have e : o = oc := by omega
    subst e
    have E := leT (a := o) (b := o) (by omega) (by omega)
    refine cx_run 60 mM_clock_mo ?_
    simp (decide := true) only [BmM_clock, h45, E, EV, EW, CT, ev_o, ev_is, ev_gd, List.length_cons, List.length_nil, Nat.reduceLT, Nat.reduceAdd, Nat.reduceEqDiff, Nat.reduceLeDiff, Int32.reduceLT, Int32.reduceLE, reduceIte, true_and, and_true, true_or, or_true, not_true_eq_false, not_false_eq_true, false_imp_iff, true_imp_iff, implies_true]
    exact hQ _
  | succ m ih =>
    intro o l4 ho
    have E := leF (a := oc) (b := o) (by omega) (by omega)
    have v1 : vp_in (nI o) 4 := nI_in (by omega) (by decide)
    have ⟨o1, o2⟩ := hx o (by omega)
    have e := pb_or (f := f) (k := o) (by omega)
    refine cx_run 60 mM_clock_mo ?_
    simp (decide := true) only [BmM_clock, h45, h55, h60, E, v1, o1, o2, e, nI_clamp (n := o) (by omega), nI_1, EV, EW, CT, ev_o, ev_is, ev_gd, List.length_cons, List.length_nil, Nat.reduceLT, Nat.reduceAdd, Nat.reduceEqDiff, Nat.reduceLeDiff, Int32.reduceLT, Int32.reduceLE, reduceIte, true_and, and_true, true_or, or_true, not_true_eq_false, not_false_eq_true, false_imp_iff, true_imp_iff, implies_true]
    exact ih (o + 1) _ (by omega)
theorem mu4 (k : Nat) : 4 * nI k = nI (4 * k) := (Int32.ofNat_mul 4 k).symm
theorem tbI {t k : Nat} (ht : t < 256) (hk : k < 8) : nI t >>> (nI k &&& 31) &&& 1 = nI (t.testBit k).toNat := by rw [bitN (by omega) (by omega), tb_bool]
/-- what a net's value is, for the reference -/
def ClkN (inp : Int32) (so na no nw aA aB aC tO : Nat → Int32) (b : Nat → Bool) (i : Nat) : Prop :=
  (so i = 0 ∧ ∃ m : Nat, m < 48 ∧ na i = nI m ∧ no m = nI i ∧ inp >>> (nI (cI so i) &&& 31) &&& 1 = nI (b i).toNat) ∨ (so i = 1 ∧ nw i = nI (b i).toNat) ∨
  (so i = 2 ∧ ∃ a t : Nat, a < i ∧ aA i = nI a ∧ t < 256 ∧ tO i = nI t ∧ ((aB i = -1 ∧ aC i = -1 ∧ b i = t.testBit (b a).toNat) ∨
    ∃ b2 : Nat, b2 < i ∧ aB i = nI b2 ∧ ((aC i = -1 ∧ b i = t.testBit ((b a).toNat + 2 * (b b2).toNat)) ∨
      ∃ c : Nat, c < i ∧ aC i = nI c ∧ b i = t.testBit ((b a).toNat + 2 * (b b2).toNat + 4 * (b c).toNat))))
set_option maxHeartbeats 8000000 in
theorem mc_loop1 {w : cx_W} {nc : Nat} {x1 x2 x3 x4 x5 x6 x7 x8 x9 inp ans : Int32} {so na no nw aA aB aC tO : Nat → Int32} {b : Nat → Bool} {Q : cx_Q} (h45 : w 45 = oM (nI nc) x1 x2 x3 x4 x5 x6 x7 x8 x9) (h46 : w 46 = ai 40 so) (h47 : w 47 = ai 40 na) (h49 : w 49 = ai 40 nw) (h51 : w 51 = ai 40 aA) (h52 : w 52 = ai 40 aB) (h53 : w 53 = ai 40 aC) (h54 : w 54 = ai 40 tO) (h59 : w 59 = ai 48 no) (hnc : nc ≤ 40)
    (hx : ∀ i, i < nc → ClkN inp so na no nw aA aB aC tO b i) (hQ : ∀ w2 vl l4, w2 55 = ai 40 vl → (∀ i, i < nc → vl i = nI (b i).toNat) → (∀ k, ¬ k = 55 → w2 k = w k) → cx_OK none mM_clock 12 0 0 Q 178 [some (.ref 45), some (.int inp), some (.int ans), some (.int 0), l4] [] w2 (87, 0, 0)) :
    ∀ (m i : Nat) (w1 : cx_W) (vl : Nat → Int32) (l4 : Option Value), i + m = nc → w1 55 = ai 40 vl → (∀ j, j < i → vl j = nI (b j).toNat) → (∀ k, ¬ k = 55 → w1 k = w k) →
    cx_OK none mM_clock 12 0 0 Q 14 [some (.ref 45), some (.int inp), some (.int ans), some (.int (nI i)), l4] [] w1 (87, 0, 0) := by
  intro m
  induction m with
  | zero =>
    intro i w1 vl l4 hi h55 hv hk
    have e : i = nc := by omega
    subst e
    have k45 := (hk 45 (by decide)).trans h45
    have E := leT (a := i) (b := i) (by omega) (by omega)
    refine cx_run 60 mM_clock_mo ?_
    simp (decide := true) only [BmM_clock, k45, E, EV, EW, CT, ev_o, ev_is, ev_gd, List.length_cons, List.length_nil, Nat.reduceLT, Nat.reduceAdd, Nat.reduceEqDiff, Nat.reduceLeDiff, Int32.reduceLT, Int32.reduceLE, reduceIte, true_and, and_true, true_or, or_true, not_true_eq_false, not_false_eq_true, false_imp_iff, true_imp_iff, implies_true]
    exact hQ w1 vl _ h55 hv hk
  | succ m ih =>
    intro i w1 vl l4 hi h55 hv hk
    have k45 := (hk 45 (by decide)).trans h45
    have k46 := (hk 46 (by decide)).trans h46
    have k47 := (hk 47 (by decide)).trans h47
    have k49 := (hk 49 (by decide)).trans h49
    have k51 := (hk 51 (by decide)).trans h51
    have k52 := (hk 52 (by decide)).trans h52
    have k53 := (hk 53 (by decide)).trans h53
    have k54 := (hk 54 (by decide)).trans h54
    have k59 := (hk 59 (by decide)).trans h59
    have E := leF (a := nc) (b := i) (by omega) (by omega)
    have v1 : vp_in (nI i) 40 := nI_in (by omega) (by decide)
    have nx : ∀ l4, cx_OK none mM_clock 12 0 0 Q 14 [some (.ref 45), some (.int inp), some (.int ans), some (.int (nI (i + 1))), l4] [] (cx_up w1 55 (ai 40 (upd vl i (nI (b i).toNat)))) (87, 0, 0) := fun l4 =>
      ih (i + 1) _ (upd vl i (nI (b i).toNat)) l4 (by omega) (by simp only [cx_up, Nat.reduceEqDiff, reduceIte]) (fun j hj => by
        by_cases e : j = i
        · rw [e, pk_us]
        · rw [pk_un e]; exact hv j (by omega)) (fun k q => by rw [← hk k q]; simp (disch := omega) only [cx_up, if_neg])
    refine cx_run 100 mM_clock_mo ?_
    rcases hx i (by omega) with ⟨q, n, n1, n2, n3, n4⟩ | ⟨q, n1⟩ | ⟨q, a, t, a1, a2, t1, t2, hf⟩
    · simp (decide := true) only [BmM_clock, k45, k46, k47, h55, E, v1, nI_clamp (n := i) (by omega), q, n2, EV, EW, CT, ev_o, ev_is, ev_gd, List.length_cons, List.length_nil, Nat.reduceLT, Nat.reduceAdd, Nat.reduceEqDiff, Nat.reduceLeDiff, Int32.reduceLT, Int32.reduceLE, reduceIte, true_and, and_true, true_or, or_true, not_true_eq_false, not_false_eq_true, false_imp_iff, true_imp_iff, implies_true]
      refine cx_cs1 5 0 0 (by decide) (c_M_entering (i := i) k45 k46 k59 n1 n3 (by omega)) fun r w2 h2 => ?_
      obtain ⟨rfl, rfl⟩ := h2
      simp (decide := true) only [BmM_clock, h55, v1, nI_clamp (n := i) (by omega), n4, nI_1, EV, EW, CT, ev_o, ev_is, ev_gd, List.length_cons, List.length_nil, Nat.reduceLT, Nat.reduceAdd, Nat.reduceEqDiff, Nat.reduceLeDiff, Int32.reduceLT, Int32.reduceLE, reduceIte, true_and, and_true, true_or, or_true, not_true_eq_false, not_false_eq_true, false_imp_iff, true_imp_iff, implies_true]
      exact nx _
    · simp (decide := true) only [BmM_clock, k45, k46, k49, h55, E, v1, nI_clamp (n := i) (by omega), q, n1, nI_1, EV, EW, CT, ev_o, ev_is, ev_gd, List.length_cons, List.length_nil, Nat.reduceLT, Nat.reduceAdd, Nat.reduceEqDiff, Nat.reduceLeDiff, Int32.reduceLT, Int32.reduceLE, reduceIte, true_and, and_true, true_or, or_true, not_true_eq_false, not_false_eq_true, false_imp_iff, true_imp_iff, implies_true]
      exact nx _
    · have va : vp_in (nI a) 40 := nI_in (by omega) (by decide)
      have ea := hv a a1
      have ba := bn_lt (b a)
      rcases hf with ⟨b1, c1, hb⟩ | ⟨b2, b1, b3, hf⟩
      · have et := tbI (k := (b a).toNat) t1 (by omega)
        rw [← hb] at et
        simp (decide := true) only [BmM_clock, k45, k46, k51, k52, k53, k54, h55, E, v1, va, ea, nI_clamp (n := i) (by omega), nI_clamp (n := a) (by omega), q, a2, b1, c1, t2, et, nI_1, EV, EW, CT, ev_o, ev_is, ev_gd, List.length_cons, List.length_nil, Nat.reduceLT, Nat.reduceAdd, Nat.reduceEqDiff, Nat.reduceLeDiff, Int32.reduceLT, Int32.reduceLE, reduceIte, true_and, and_true, true_or, or_true, not_true_eq_false, not_false_eq_true, false_imp_iff, true_imp_iff, implies_true]
        exact nx _
      · have vb : vp_in (nI b2) 40 := nI_in (by omega) (by decide)
        have eb := hv b2 b1
        have bb := bn_lt (b b2)
        have pbn : (nI b2 < 0) = False := eq_false (nI_pos (by omega))
        rcases hf with ⟨c1, hb⟩ | ⟨c, c1, c2, hb⟩
        · have et := tbI (k := (b a).toNat + 2 * (b b2).toNat) t1 (by omega)
          rw [← hb] at et
          simp (decide := true) only [BmM_clock, k45, k46, k51, k52, k53, k54, h55, E, v1, va, vb, ea, eb, nI_clamp (n := i) (by omega), nI_clamp (n := a) (by omega), nI_clamp (n := b2) (by omega), q, a2, b3, c1, t2, pbn, mu2, nI_add, et, nI_1, EV, EW, CT, ev_o, ev_is, ev_gd, List.length_cons, List.length_nil, Nat.reduceLT, Nat.reduceAdd, Nat.reduceEqDiff, Nat.reduceLeDiff, Int32.reduceLT, Int32.reduceLE, reduceIte, true_and, and_true, true_or, or_true, not_true_eq_false, not_false_eq_true, false_imp_iff, true_imp_iff, implies_true]
          exact nx _
        · have vc : vp_in (nI c) 40 := nI_in (by omega) (by decide)
          have ec := hv c c1
          have bc := bn_lt (b c)
          have pcn : (nI c < 0) = False := eq_false (nI_pos (by omega))
          have et := tbI (k := (b a).toNat + 2 * (b b2).toNat + 4 * (b c).toNat) t1 (by omega)
          rw [← hb] at et
          simp (decide := true) only [BmM_clock, k45, k46, k51, k52, k53, k54, h55, E, v1, va, vb, vc, ea, eb, ec, nI_clamp (n := i) (by omega), nI_clamp (n := a) (by omega), nI_clamp (n := b2) (by omega), nI_clamp (n := c) (by omega), q, a2, b3, c2, t2, pbn, pcn, mu2, mu4, nI_add, et, nI_1, EV, EW, CT, ev_o, ev_is, ev_gd, List.length_cons, List.length_nil, Nat.reduceLT, Nat.reduceAdd, Nat.reduceEqDiff, Nat.reduceLeDiff, Int32.reduceLT, Int32.reduceLE, reduceIte, true_and, and_true, true_or, or_true, not_true_eq_false, not_false_eq_true, false_imp_iff, true_imp_iff, implies_true]
          exact nx _
set_option maxHeartbeats 4000000 in
theorem c_M_clock {w : cx_W} {nc oc : Nat} {x1 x2 x3 x5 x6 x7 x8 x9 inp : Int32} {so na no nw dr aA aB aC tO vl0 on nxt : Nat → Int32} {b f : Nat → Bool} (h45 : w 45 = oM (nI nc) x1 x2 x3 (nI oc) x5 x6 x7 x8 x9) (h46 : w 46 = ai 40 so) (h47 : w 47 = ai 40 na) (h49 : w 49 = ai 40 nw) (h50 : w 50 = ai 40 dr) (h51 : w 51 = ai 40 aA) (h52 : w 52 = ai 40 aB) (h53 : w 53 = ai 40 aC) (h54 : w 54 = ai 40 tO) (h55 : w 55 = ai 40 vl0) (h59 : w 59 = ai 48 no) (h60 : w 60 = ai 4 on) (hnc : nc ≤ 40) (hoc : oc ≤ 4)
    (hu : ∀ i, i < nc → so i = 1 → ¬ dr i < 0) (hx : ∀ i, i < nc → ClkN inp so na no nw aA aB aC tO b i) (hd : ∀ i, i < nc → (so i = 1 → ∃ j : Nat, j < nc ∧ dr i = nI j ∧ nxt i = nI (b j).toNat) ∧ (¬ so i = 1 → nxt i = 0)) (ho : ∀ o, o < oc → ∃ j : Nat, j < nc ∧ on o = nI j ∧ f o = b j) :
    cx_MC mM_clock 12 0 0 [.ref 45, .int inp] w 87 (fun r w2 => r = some (.int (nI (pb f oc))) ∧ (∃ nw2, w2 49 = ai 40 nw2 ∧ ∀ i, i < nc → nw2 i = nxt i) ∧ (∃ vl, w2 55 = ai 40 vl) ∧ ∀ k, ¬ k = 49 ∧ ¬ k = 55 → w2 k = w k) := by
  refine cx_met 60 mM_clock_ok rfl ?_
  show cx_vc 60 none mM_clock 12 0 0 _ _ 0 [some (.ref 45), some (.int inp), none, none, none] [] w (87, 0, 0)
  simp (decide := true) only [BmM_clock, h45, EV, EW, CT, ev_o, ev_is, ev_gd, List.length_cons, List.length_nil, Nat.reduceLT, Nat.reduceAdd, Nat.reduceEqDiff, Nat.reduceLeDiff, Int32.reduceLT, Int32.reduceLE, reduceIte, true_and, and_true, true_or, or_true, not_true_eq_false, not_false_eq_true, false_imp_iff, true_imp_iff, implies_true]
  refine cx_cs1 5 0 0 (by decide) (c_M_undriven (b := false) h45 h46 h50 hnc ⟨fun h => (by cases h), fun ⟨i, h1, h2, h3⟩ => absurd h3 (hu i h1 h2)⟩) fun r w2 h2 => ?_
  obtain ⟨rfl, rfl⟩ := h2
  simp (decide := true) only [BmM_clock, Bool.false_eq_true, EV, EW, CT, ev_o, ev_is, ev_gd, List.length_cons, List.length_nil, Nat.reduceLT, Nat.reduceAdd, Nat.reduceEqDiff, Nat.reduceLeDiff, Int32.reduceLT, Int32.reduceLE, reduceIte, true_and, and_true, true_or, or_true, not_true_eq_false, not_false_eq_true, false_imp_iff, true_imp_iff, implies_true]
  refine mc_loop1 h45 h46 h47 h49 h51 h52 h53 h54 h59 hnc hx (fun w2 vl l4 g55 gv gk => ?_) nc 0 w2 vl0 _ (by omega) h55 (fun j h => by omega) (fun _ _ => rfl)
  refine mc_loop2 (on := on) (vl := vl) (f := f) ((gk 45 (by decide)).trans h45) g55 ((gk 60 (by decide)).trans h60) hoc (fun o h => ?_) (fun l4 => ?_) oc 0 _ (by omega)
  · obtain ⟨j, j1, j2, j3⟩ := ho o h
    rw [j2, nI_clamp (by omega), j3]
    exact ⟨nI_in (by omega) (by decide), gv j j1⟩
  · refine mc_loop3 (nxt := nxt) ((gk 45 (by decide)).trans h45) ((gk 46 (by decide)).trans h46) ((gk 50 (by decide)).trans h50) g55 hnc (fun i h => ⟨fun q => ?_, (hd i h).2⟩) (fun w3 nw2 a1 a2 a3 => ⟨rfl, ⟨nw2, a1, a2⟩, ⟨vl, (a3 55 (by decide)).trans g55⟩, fun k q => (a3 k q.1).trans (gk k q.2)⟩) nc 0 w2 nw _ (by omega) ((gk 49 (by decide)).trans h49) (fun j h => by omega) (fun _ _ => rfl)
    obtain ⟨j, j1, j2, j3⟩ := (hd i h).1 q
    rw [j2, nI_clamp (by omega), j3]
    exact ⟨nI_in (by omega) (by decide), gv j j1⟩
