/-! Measuring: the reference's side, rows and edges. Own work. -/
theorem divK {a c : Nat} {x : Int32} (hx : x = nI c) (ha : a < 2 ^ 31) (hc : c < 2 ^ 31) : nI a / x = nI (a / c) := by
  rw [hx]
  apply Int32.toInt_inj.mp
  have e : ∀ m : Nat, m < 2 ^ 31 → (nI m).toInt = m := fun m hm => Int32.toInt_ofNat_of_lt hm
  have hd : a / c ≤ a := Nat.div_le_self a c
  rw [Int32.toInt_div, e a ha, e c hc, e _ (by omega), ← Int.ofNat_tdiv]
  generalize a / c = t at hd
  exact Int.bmod_eq_of_le (by omega) (by omega)
theorem remK {a c : Nat} {x : Int32} (hx : x = nI c) (ha : a < 2 ^ 31) (hc : c < 2 ^ 31) : nI a - nI a / x * x = nI (a % c) := by
  rw [divK hx ha hc, hx]
  have h := Nat.div_add_mod a c
  have e1 : nI (a / c) * nI c = nI (a / c * c) := (Int32.ofNat_mul _ _).symm
  have e2 : nI a = nI (a / c * c) + nI (a % c) := by
    rw [nI_add, Nat.mul_comm]; exact congrArg nI h.symm
  rw [e1, e2, Int32.add_comm, Int32.add_sub_cancel]
theorem remQ {a c : Nat} {x : Int32} (hx : x = nI c) (ha : a < 2 ^ 31) (hc : c < 2 ^ 31) : nI a - nI (a / c) * x = nI (a % c) := by
  have h := remK hx ha hc
  rw [divK hx ha hc] at h
  exact h
theorem mu48 (k : Nat) : 48 * nI k = nI (48 * k) := (Int32.ofNat_mul 48 k).symm
theorem ix48 {u v : Nat} (h : v < 48) : (48 * u + v) / 48 = u ∧ (48 * u + v) % 48 = v := by omega
/-- the reference's mapped picture: gates, cells, connections as they start -/
def RmW (w : cx_W) (n : Nat) (gt : Nat → Prop) (q pl d : Nat → Nat) (s lt st : Nat → Nat → Nat) (oc : Nat) (os ol ob : Nat → Nat) (pa dl ch gr so la_ : Nat → Int32) (sr : Nat → Int64) : Prop :=
  (n ≤ 48 ∧ oc ≤ 4 ∧ w 61 = ai 8 pa ∧ w 63 = ai 8 dl ∧ w 68 = ai 48 ch ∧ w 70 = az 48 gr ∧ w 73 = ai 196 so ∧ w 74 = ai 196 la_ ∧ w 75 = al 196 sr) ∧
  BR 48 gr gt ∧ (∀ g, gt g → g < n ∧ q g ∈ pats ∧ pl g = pinsP (q g) ∧ ∃ c, c < 8 ∧ ch g = nI c ∧ pa c = nI (q g) ∧ dl c = nI (d g)) ∧ (∀ u, d u ≤ 1000) ∧
  (∀ g p, gt g → p < pl g → so (4 * g + p) = nI (s g p) ∧ la_ (4 * g + p) = nI (lt g p) ∧ sr (4 * g + p) = lN (st g p) ∧ s g p < n ∧ lt g p ≤ 6 ∧ st g p < 2 ^ lt g p) ∧
  (∀ e, e < 192 → ¬ (gt (e / 4) ∧ e % 4 < pl (e / 4)) → so e = -1) ∧
  (∀ o, o < oc → so (192 + o) = nI (os o) ∧ la_ (192 + o) = nI (ol o) ∧ sr (192 + o) = lN (ob o) ∧ os o < n ∧ ol o ≤ 6 ∧ ob o < 2 ^ ol o) ∧ ∀ e, 192 + oc ≤ e → e < 196 → so e = -1
theorem RmW.of {w w1 : cx_W} {n : Nat} {gt : Nat → Prop} {q pl d : Nat → Nat} {s lt st : Nat → Nat → Nat} {oc : Nat} {os ol ob : Nat → Nat} {pa dl ch gr so la_ : Nat → Int32} {sr : Nat → Int64} (h : RmW w n gt q pl d s lt st oc os ol ob pa dl ch gr so la_ sr) (hk : ∀ k, (k = 61 ∨ k = 63 ∨ k = 68 ∨ k = 70 ∨ k = 73 ∨ k = 74 ∨ k = 75) → w1 k = w k) : RmW w1 n gt q pl d s lt st oc os ol ob pa dl ch gr so la_ sr := by
  obtain ⟨⟨a1, a2, a3, a4, a5, a6, a7, a8, a9⟩, r⟩ := h
  exact ⟨⟨a1, a2, (hk 61 (by decide)).trans a3, (hk 63 (by decide)).trans a4, (hk 68 (by decide)).trans a5, (hk 70 (by decide)).trans a6, (hk 73 (by decide)).trans a7, (hk 74 (by decide)).trans a8, (hk 75 (by decide)).trans a9⟩, r⟩
def MxR (n : Nat) (fr sl : Nat → Int32) (F S : Nat → Nat → Nat) : Prop := ∀ u v, u < n → v < n → fr (48 * u + v) = nI (F u v) ∧ sl (48 * u + v) = nI (S u v) ∧ F u v ≤ 1000000 ∧ S u v ≤ 30000000
theorem MxR.congr {n : Nat} {fr sl : Nat → Int32} {F S F' S' : Nat → Nat → Nat} (h : MxR n fr sl F S) (e : ∀ u v, u < n → v < n → F' u v = F u v ∧ S' u v = S u v) : MxR n fr sl F' S' := fun u v hu hv => by
  obtain ⟨e1, e2⟩ := e u v hu hv
  rw [e1, e2]; exact h u v hu hv
def putM (F : Nat → Nat → Nat) (a b x u v : Nat) : Nat := if u = a ∧ v = b then x else F u v
theorem putM_s (F : Nat → Nat → Nat) (a b x : Nat) : putM F a b x a b = x := if_pos ⟨rfl, rfl⟩
theorem putM_n (F : Nat → Nat → Nat) {a b x u v : Nat} (h : ¬ (u = a ∧ v = b)) : putM F a b x u v = F u v := if_neg h
theorem MxR.put {n : Nat} {fr sl : Nat → Int32} {F S : Nat → Nat → Nat} {a b x y : Nat} (hn : n ≤ 48) (h : MxR n fr sl F S) (hb : b < n) (hx : x ≤ 1000000) (hy : y ≤ 30000000) : MxR n (upd fr (48 * a + b) (nI x)) (upd sl (48 * a + b) (nI y)) (putM F a b x) (putM S a b y) := fun u v hu hv => by
  by_cases e : u = a ∧ v = b
  · obtain ⟨rfl, rfl⟩ := e
    rw [pk_us, pk_us, putM_s, putM_s]; exact ⟨rfl, rfl, hx, hy⟩
  · rw [putM_n F e, putM_n S e, pk_un (fun z => e (by omega)), pk_un (fun z => e (by omega))]; exact h u v hu hv
def iF (u v : Nat) : Nat := if u = v then 0 else 1000000
abbrev frM (k : Nat) : Prop := ¬ k = 79 ∧ ¬ k = 80
set_option maxHeartbeats 8000000 in
theorem mme_init {w : cx_W} {n : Nat} {x0 x1 x2 x3 x4 x5 x6 x7 x8 x9 : Int32} {Q : cx_Q} (hn : n ≤ 48) (h45 : w 45 = oM x0 x1 x2 x3 x4 x5 x6 x7 x8 x9)
    (hQ : ∀ (w1 : cx_W) (fr sl : Nat → Int32) (l2 l3 : Option Value), w1 79 = ai 2304 fr → w1 80 = ai 2304 sl → (∀ k, frM k → w1 k = w k) → MxR n fr sl iF (fun _ _ => 0) → cx_OK none mM_measure 10 0 0 Q 47 [some (.ref 45), some (.int (nI 0)), l2, l3] [] w1 (87, 0, 0)) :
    ∀ (m i : Nat) (w1 : cx_W) (fr sl : Nat → Int32) (l2 l3 : Option Value), i + m = 2304 → w1 79 = ai 2304 fr → w1 80 = ai 2304 sl → (∀ k, frM k → w1 k = w k) → (∀ j, j < i → fr j = (if j / 48 = j % 48 then 0 else 1000000) ∧ sl j = 0) →
    cx_OK none mM_measure 10 0 0 Q 2 [some (.ref 45), some (.int (nI i)), l2, l3] [] w1 (87, 0, 0) := by
  intro m
  induction m with
  | zero =>
    intro i w1 fr sl l2 l3 hi h79 h80 hk hv
    have E : ((2304 : Int32) ≤ nI i) = True := (lek (a := i) (c := 2304) (x := 2304) rfl (by omega) (by decide)).trans (eq_true (by omega))
    have k45 := (hk 45 (by decide)).trans h45
    refine cx_run 100 mM_measure_mo ?_
    simp (decide := true) only [BmM_measure, BSM, k45, E, EV, EW, CT, ev_o, ev_is, ev_gd, List.length_cons, List.length_nil, Nat.reduceLT, Nat.reduceAdd, Nat.reduceEqDiff, Nat.reduceLeDiff, Int32.reduceLT, Int32.reduceLE, reduceIte, true_and, and_true, true_or, or_true, not_true_eq_false, not_false_eq_true, false_imp_iff, true_imp_iff, implies_true]
    refine hQ w1 fr sl _ _ h79 h80 hk fun u v hu hv2 => ?_
    obtain ⟨a, b⟩ := hv (48 * u + v) (by omega)
    obtain ⟨c, d⟩ := ix48 (u := u) (v := v) (by omega)
    rw [c, d] at a
    rw [a, b]
    unfold iF
    by_cases e : u = v
    · rw [if_pos e, if_pos e]; exact ⟨rfl, rfl, by omega, Nat.zero_le _⟩
    · rw [if_neg e, if_neg e]; exact ⟨rfl, rfl, by omega, Nat.zero_le _⟩
  | succ m ih =>
    intro i w1 fr sl l2 l3 hi h79 h80 hk hv
    have E : ((2304 : Int32) ≤ nI i) = False := (lek (a := i) (c := 2304) (x := 2304) rfl (by omega) (by decide)).trans (eq_false (by omega))
    have k45 := (hk 45 (by decide)).trans h45
    have v1 : vp_in (nI i) 2304 := nI_in (by omega) (by decide)
    have R := remQ (a := i) (c := 48) (x := 48) rfl (by omega) (by decide)
    have D := divK (a := i) (c := 48) (x := 48) rfl (by omega) (by decide)
    have Z := eqN (a := i / 48) (b := i % 48) (by omega) (by omega)
    refine cx_run 100 mM_measure_mo ?_
    by_cases e : i / 48 = i % 48
    · have Z2 : (i / 48 = i % 48) = True := eq_true e
      simp (decide := true) only [BmM_measure, BSM, k45, h79, h80, E, v1, R, D, Z, Z2, nI_clamp (n := i) (by omega), nI_1, EV, EW, CT, ev_o, ev_is, ev_gd, List.length_cons, List.length_nil, Nat.reduceLT, Nat.reduceAdd, Nat.reduceEqDiff, Nat.reduceLeDiff, Int32.reduceLT, Int32.reduceLE, reduceIte, true_and, and_true, true_or, or_true, not_true_eq_false, not_false_eq_true, false_imp_iff, true_imp_iff, implies_true]
      refine ih (i + 1) _ (upd fr i 0) (upd sl i 0) _ _ (by omega) (by simp only [cx_up, Nat.reduceEqDiff, reduceIte]) (by simp only [cx_up, Nat.reduceEqDiff, reduceIte]) (fun k z => by rw [← hk k z]; simp (disch := omega) only [cx_up, if_neg]) (fun j hj => ?_)
      by_cases q : j = i
      · subst q; rw [pk_us, pk_us, if_pos e]; exact ⟨rfl, rfl⟩
      · rw [pk_un q, pk_un q]; exact hv j (by omega)
    · have Z2 : (i / 48 = i % 48) = False := eq_false e
      simp (decide := true) only [BmM_measure, BSM, k45, h79, h80, E, v1, R, D, Z, Z2, nI_clamp (n := i) (by omega), nI_1, EV, EW, CT, ev_o, ev_is, ev_gd, List.length_cons, List.length_nil, Nat.reduceLT, Nat.reduceAdd, Nat.reduceEqDiff, Nat.reduceLeDiff, Int32.reduceLT, Int32.reduceLE, reduceIte, true_and, and_true, true_or, or_true, not_true_eq_false, not_false_eq_true, false_imp_iff, true_imp_iff, implies_true]
      refine ih (i + 1) _ (upd fr i 1000000) (upd sl i 0) _ _ (by omega) (by simp only [cx_up, Nat.reduceEqDiff, reduceIte]) (by simp only [cx_up, Nat.reduceEqDiff, reduceIte]) (fun k z => by rw [← hk k z]; simp (disch := omega) only [cx_up, if_neg]) (fun j hj => ?_)
      by_cases q : j = i
      · subst q; rw [pk_us, pk_us, if_neg e]; exact ⟨rfl, rfl⟩
      · rw [pk_un q, pk_un q]; exact hv j (by omega)
/-- the edges so far -/
def EdI (n : Nat) (gt : Nat → Prop) (pl d : Nat → Nat) (s lt : Nat → Nat → Nat) (F S : Nat → Nat → Nat) (i : Nat) : Prop :=
  (∀ u v, u < n → v < n → u ≠ v → F u v < 1000000 → EE gt pl s lt u v (F u v) ∧ S u v = d u) ∧ (∀ u, u < n → F u u = 0 ∧ S u u = 0) ∧
  ∀ g p, gt g → p < pl g → 4 * g + p < i → gt (s g p) → s g p ≠ g → F (s g p) g < 1000000 ∧ rt_lx (F (s g p) g) (S (s g p) g) (lt g p) (d (s g p))
theorem EdI_fin {n : Nat} {gt : Nat → Prop} {pl d : Nat → Nat} {s lt : Nat → Nat → Nat} {F S : Nat → Nat → Nat} (hH : rt_H (EE gt pl s lt) gt d n) (h48 : n ≤ 48) (hpl : ∀ g, gt g → pl g ≤ 4) (h : EdI n gt pl d s lt F S 192) : rt_FW (EE gt pl s lt) d n F S 0 := by
  obtain ⟨a, b, c⟩ := h
  obtain ⟨⟨e1, e2, e3, e4, e5⟩, h2, h3⟩ := hH
  refine ⟨fun u v hu hv hne hf => ⟨0, a u v hu hv hne hf⟩, b, fun u v w he => ?_, fun j hj => by omega⟩
  obtain ⟨gv, p, hp, hs, gu, hw⟩ := he
  have hvn := h3 v gv
  have hun := h3 u gu
  by_cases e : u = v
  · have hw0 : ¬ w = 0 := fun z => by
      have := e2 u v ⟨gv, p, hp, hs, gu, hw.trans z⟩
      omega
    rw [e]
    have := b v hvn
    rw [this.1]
    exact ⟨by omega, .inl (by omega)⟩
  · have := c v p gv hp (by have := hpl v gv; omega) (by rw [hs]; exact gu) (by rw [hs]; exact e)
    rw [hs, hw] at this
    exact this
theorem EdI_skip {n : Nat} {gt : Nat → Prop} {pl d : Nat → Nat} {s lt : Nat → Nat → Nat} {F S : Nat → Nat → Nat} {i : Nat} (hpl : ∀ g, gt g → pl g ≤ 4) (h : EdI n gt pl d s lt F S i) (hno : gt (i / 4) → i % 4 < pl (i / 4) → gt (s (i / 4) (i % 4)) → s (i / 4) (i % 4) = i / 4) : EdI n gt pl d s lt F S (i + 1) := by
  obtain ⟨a, b, c⟩ := h
  refine ⟨a, b, fun g p hg hp hi gs hne => ?_⟩
  by_cases e : 4 * g + p = i
  · have := hpl g hg
    have e1 : i / 4 = g := by omega
    have e2 : i % 4 = p := by omega
    rw [e1, e2] at hno
    exact absurd (hno hg hp gs) hne
  · exact c g p hg hp (by omega) gs hne
theorem EdI_put {n : Nat} {gt : Nat → Prop} {pl d : Nat → Nat} {s lt : Nat → Nat → Nat} {F S : Nat → Nat → Nat} {g p : Nat} (hpl : ∀ g, gt g → pl g ≤ 4) (hlt : lt g p ≤ 6) (h : EdI n gt pl d s lt F S (4 * g + p)) (hg : gt g) (hp : p < pl g) (gs : gt (s g p)) (hne : s g p ≠ g) (hc : lt g p < F (s g p) g ∨ (lt g p = F (s g p) g ∧ S (s g p) g < d (s g p))) :
    EdI n gt pl d s lt (putM F (s g p) g (lt g p)) (putM S (s g p) g (d (s g p))) (4 * g + p + 1) := by
  obtain ⟨a, b, c⟩ := h
  refine ⟨fun u v hu hv hne2 hf => ?_, fun u hu => ?_, fun g2 p2 hg2 hp2 hi gs2 hne2 => ?_⟩
  · by_cases e : u = s g p ∧ v = g
    · obtain ⟨rfl, rfl⟩ := e
      rw [putM_s, putM_s]
      exact ⟨⟨hg, p, hp, rfl, gs, rfl⟩, rfl⟩
    · rw [putM_n F e] at hf ⊢
      rw [putM_n S e]
      exact a u v hu hv hne2 hf
  · rw [putM_n F (fun z => hne (z.1.symm.trans z.2)), putM_n S (fun z => hne (z.1.symm.trans z.2))]
    exact b u hu
  · by_cases e : s g2 p2 = s g p ∧ g2 = g
    · rw [e.1, e.2, putM_s, putM_s]
      refine ⟨by omega, ?_⟩
      by_cases e2 : p2 = p
      · rw [e2]; exact .inr ⟨rfl, Nat.le_refl _⟩
      · have e3 := e.2
        subst e3
        have := hpl g2 hg
        obtain ⟨c1, c2⟩ := c g2 p2 hg2 hp2 (by omega) gs2 hne2
        rw [e.1] at c1 c2
        unfold rt_lx at c2 ⊢
        omega
    · rw [putM_n F e, putM_n S e]
      by_cases e2 : 4 * g2 + p2 = 4 * g + p
      · have := hpl g hg
        have := hpl g2 hg2
        exact absurd ⟨by rw [show g2 = g by omega, show p2 = p by omega], by omega⟩ e
      · exact c g2 p2 hg2 hp2 (by omega) gs2 hne2
theorem EdI_keep {n : Nat} {gt : Nat → Prop} {pl d : Nat → Nat} {s lt : Nat → Nat → Nat} {F S : Nat → Nat → Nat} {g p : Nat} (hpl : ∀ g, gt g → pl g ≤ 4) (hlt : lt g p ≤ 6) (h : EdI n gt pl d s lt F S (4 * g + p)) (hg : gt g) (hp : p < pl g) (hc : ¬ (lt g p < F (s g p) g ∨ (lt g p = F (s g p) g ∧ S (s g p) g < d (s g p)))) :
    EdI n gt pl d s lt F S (4 * g + p + 1) := by
  obtain ⟨a, b, c⟩ := h
  refine ⟨a, b, fun g2 p2 hg2 hp2 hi gs2 hne2 => ?_⟩
  by_cases e2 : 4 * g2 + p2 = 4 * g + p
  · have := hpl g2 hg2
    have := hpl g hg
    have e1 : g2 = g := by omega
    have e4 : p2 = p := by omega
    subst e1 e4
    unfold rt_lx
    omega
  · exact c g2 p2 hg2 hp2 (by omega) gs2 hne2
