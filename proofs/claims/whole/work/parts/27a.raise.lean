/-! Raising: the reference's side. Own work. -/
theorem due_int {a b c : Nat} (ha : a < 2 ^ 29) (hb : b < 2 ^ 29) (hc : c < 2 ^ 29) : (nI a - nI b + nI c).toInt = (a : Int) - b + c := by
  have e : ∀ m : Nat, m < 2 ^ 31 → (nI m).toInt = m := fun m hm => Int32.toInt_ofNat_of_lt hm
  rw [Int32.toInt_add, pk_sub_toInt (by omega) (by omega), e c (by omega)]
  exact Int.bmod_eq_of_le (by omega) (by omega)
theorem due_le {a b c x : Nat} {y : Int32} (hy : y = nI c) (ha : a < 2 ^ 29) (hb : b < 2 ^ 29) (hc : c < 2 ^ 29) (hx : x < 2 ^ 29) : (nI a - nI b + y ≤ nI x) = (a + c ≤ x + b) := by
  have e : ∀ m : Nat, m < 2 ^ 31 → (nI m).toInt = m := fun m hm => Int32.toInt_ofNat_of_lt hm
  rw [hy]
  apply propext
  rw [Int32.le_iff_toInt_le, due_int ha hb hc, e x (by omega)]
  omega
theorem due_eq {a b c : Nat} {y : Int32} (hy : y = nI c) (ha : a < 2 ^ 29) (hb : b < 2 ^ 29) (hc : c < 2 ^ 29) (h : b ≤ a + c) : nI a - nI b + y = nI (a + c - b) := by
  have e : ∀ m : Nat, m < 2 ^ 31 → (nI m).toInt = m := fun m hm => Int32.toInt_ofNat_of_lt hm
  rw [hy]
  apply Int32.toInt_inj.mp
  rw [due_int ha hb hc, e _ (by omega)]
  omega
def MvR (mr : Nat → Int32) (r : Nat → Nat) : Prop := ∀ j, j < 48 → mr j = nI (r j)
theorem MvR.put {mr : Nat → Int32} {r : Nat → Nat} (h : MvR mr r) (a x : Nat) : MvR (upd mr a (nI x)) (setN r a x) := fun j hj => by
  by_cases e : j = a
  · rw [e, pk_us, setN_s]
  · rw [pk_un e, setN_n r e]; exact h j hj
def RaI (gt : Nat → Prop) (C : Nat → Nat → Int → Prop) (r0 r1 : Nat → Nat) (mo : Int32) (B : Nat) : Prop :=
  (∀ u, r0 u ≤ r1 u ∧ r1 u ≤ B) ∧ (∀ u, ¬ gt u → r1 u = r0 u) ∧
  (∀ s : Nat → Int, (∀ u v k, C u v k → s v ≤ s u + k) → (∀ u, gt u → (r0 u : Int) ≤ s u) → ∀ u, gt u → (r1 u : Int) ≤ s u) ∧
  ((mo = 0 ∧ ∀ u, r1 u = r0 u) ∨ (mo = 1 ∧ ¬ ∀ u v k, C u v k → (r0 v : Int) ≤ (r0 u : Int) + k))
theorem RaI.up {gt : Nat → Prop} {C : Nat → Nat → Int → Prop} {r0 r1 : Nat → Nat} {mo : Int32} {B B' : Nat} (h : RaI gt C r0 r1 mo B) (hb : B ≤ B') : RaI gt C r0 r1 mo B' :=
  ⟨fun u => ⟨(h.1 u).1, by have := (h.1 u).2; omega⟩, h.2⟩
def PrI (C : Nat → Nat → Int → Prop) (r0 r1 : Nat → Nat) (i : Nat) : Prop := ∀ u v k, C u v k → 48 * u + v < i → (r0 v : Int) ≤ (r1 u : Int) + k
theorem ra_put {gt : Nat → Prop} {C : Nat → Nat → Int → Prop} {r0 r1 : Nat → Nat} {mo : Int32} {B a b x i : Nat} {k : Int} (hC : ∀ u v k, C u v k → gt u ∧ gt v ∧ v < 48) (h1 : ∀ k', C a b k' → k' = k) (hb : b < 48) (h : RaI gt C r0 r1 mo B) (hp : PrI C r0 r1 i) (hi : i = 48 * a + b) (hc : C a b k) (hk : -1 ≤ k) (hx : (x : Int) = (r1 b : Int) - k) (hlt : r1 a < x) :
    RaI gt C r0 (setN r1 a x) 1 (B + 1) ∧ PrI C r0 (setN r1 a x) (i + 1) := by
  obtain ⟨p1, p2, p3, p4⟩ := h
  refine ⟨⟨fun u => ?_, fun u hu => ?_, fun s hs h0 u hu => ?_, .inr ⟨rfl, ?_⟩⟩, fun u v k' hc' hi' => ?_⟩
  · have hub := (p1 b).2
    by_cases e : u = a
    · rw [e, setN_s]; have := p1 a; omega
    · rw [setN_n r1 e]; have := p1 u; omega
  · rw [setN_n r1 (fun e => hu (by rw [e]; exact (hC a b k hc).1))]; exact p2 u hu
  · by_cases e : u = a
    · rw [e, setN_s]
      have := p3 s hs h0 b (hC a b k hc).2.1
      have := hs a b k hc
      omega
    · rw [setN_n r1 e]; exact p3 s hs h0 u hu
  · rcases p4 with ⟨_, z⟩ | ⟨_, z⟩
    · intro y
      have := y a b k hc
      rw [← z a, ← z b] at this
      omega
    · exact z
  · by_cases e : u = a
    · rw [e, setN_s]
      by_cases e2 : v = b
      · rw [e, e2] at hc'
        have := h1 k' hc'
        have := (p1 b).1
        rw [e2]
        omega
      · have := hp u v k' hc' (by omega)
        rw [e] at this
        omega
    · rw [setN_n r1 e]
      have := (hC u v k' hc').2.2
      exact hp u v k' hc' (by omega)
theorem ra_keep {gt : Nat → Prop} {C : Nat → Nat → Int → Prop} {r0 r1 : Nat → Nat} {mo : Int32} {B a b i : Nat} (hC : ∀ u v k, C u v k → gt u ∧ gt v ∧ v < 48) (hb : b < 48) (h : RaI gt C r0 r1 mo B) (hp : PrI C r0 r1 i) (hi : i = 48 * a + b) (hk : ∀ k, C a b k → (r1 b : Int) ≤ (r1 a : Int) + k) : PrI C r0 r1 (i + 1) := fun u v k' hc' hi' => by
  have := (hC u v k' hc').2.2
  by_cases e : u = a ∧ v = b
  · have z := hk k' (by rw [← e.1, ← e.2]; exact hc')
    have := (h.1 b).1
    rw [e.1, e.2]
    omega
  · exact hp u v k' hc' (by omega)
set_option maxHeartbeats 16000000 in
theorem mra_in {w : cx_W} {n : Nat} {gt : Nat → Prop} {q pl d : Nat → Nat} {s lt st : Nat → Nat → Nat} {oc : Nat} {os ol ob : Nat → Nat} {pa dl ch gr so la_ fr sl : Nat → Int32} {sr : Nat → Int64} {x0 x1 x2 x4 x5 x6 x7 x8 x9 : Int32} {F S : Nat → Nat → Nat} {P B dd a : Nat} {r0 : Nat → Nat} {Q : cx_Q} (hW : RmW w n gt q pl d s lt st oc os ol ob pa dl ch gr so la_ sr) (h45 : w 45 = oM x0 x1 x2 (nI n) x4 x5 x6 x7 x8 x9) (h79 : w 79 = ai 2304 fr) (h80 : w 80 = ai 2304 sl) (hM : MxR n fr sl F S) (hP : P ≤ 30001000) (hB0 : B ≤ 1000000) (ha : a < n)
    (hQ : ∀ (w1 : cx_W) (mr : Nat → Int32) (r1 : Nat → Nat) (mo : Int32) (l4 l5 l6 : Option Value), w1 81 = ai 48 mr → (∀ k, ¬ k = 81 → w1 k = w k) → MvR mr r1 → RaI gt (rt_R gt d F S P) r0 r1 mo (B + 48 * (a + 1)) → PrI (rt_R gt d F S P) r0 r1 (48 * (a + 1)) → cx_OK none mM_raise (dd + 1) 0 0 Q 4 [some (.ref 45), some (.int (nI P)), some (.int mo), some (.int (nI (a + 1))), l4, l5, l6] [] w1 (87, 0, 0)) :
    ∀ (m b : Nat) (w1 : cx_W) (mr : Nat → Int32) (r1 : Nat → Nat) (mo : Int32) (l5 l6 : Option Value), b + m = n → w1 81 = ai 48 mr → (∀ k, ¬ k = 81 → w1 k = w k) → MvR mr r1 → RaI gt (rt_R gt d F S P) r0 r1 mo (B + (48 * a + b)) → PrI (rt_R gt d F S P) r0 r1 (48 * a + b) →
    cx_OK none mM_raise (dd + 1) 0 0 Q 15 [some (.ref 45), some (.int (nI P)), some (.int mo), some (.int (nI a)), some (.int (nI b)), l5, l6] [] w1 (87, 0, 0) := by
  obtain ⟨⟨hn, hoc, h61, h63, h68, h70, h73, h74, h75⟩, hB, hgd, hd, hcn, hno, hon, hoo⟩ := hW
  have hC : ∀ u v k, rt_R gt d F S P u v k → gt u ∧ gt v ∧ v < 48 := fun u v k h => ⟨h.1, h.2.1, by have := (hgd v h.2.1).1; omega⟩
  intro m
  induction m with
  | zero =>
    intro b w1 mr r1 mo l5 l6 hb h81 hk hv hI hp
    have E1 := leT (a := n) (b := b) (by omega) (by omega)
    have k45 := (hk 45 (by decide)).trans h45
    refine cx_run 100 mM_raise_mo ?_
    simp (decide := true) only [BmM_raise, BSM, k45, E1, nI_1, EV, EW, CT, ev_o, ev_is, ev_gd, List.length_cons, List.length_nil, Nat.reduceLT, Nat.reduceAdd, Nat.reduceEqDiff, Nat.reduceLeDiff, Int32.reduceLT, Int32.reduceLE, reduceIte, true_and, and_true, true_or, or_true, not_true_eq_false, not_false_eq_true, false_imp_iff, true_imp_iff, implies_true]
    refine hQ w1 mr r1 mo _ _ _ h81 hk hv (hI.up (by omega)) (fun u v k hc hi => hp u v k hc ?_)
    have := (hgd v hc.2.1).1
    omega
  | succ m ih =>
    intro b w1 mr r1 mo l5 l6 hb h81 hk hv hI hp
    have E1 := leF (a := n) (b := b) (by omega) (by omega)
    have k45 := (hk 45 (by decide)).trans h45
    have k63 := (hk 63 (by decide)).trans h63
    have k68 := (hk 68 (by decide)).trans h68
    have k70 := (hk 70 (by decide)).trans h70
    have k79 := (hk 79 (by decide)).trans h79
    have k80 := (hk 80 (by decide)).trans h80
    have v1 : vp_in (nI a) 48 := nI_in (by omega) (by decide)
    have v2 : vp_in (nI b) 48 := nI_in (by omega) (by decide)
    have v3 : vp_in (nI (48 * a + b)) 2304 := nI_in (by omega) (by decide)
    have rb := (hI.1 b).2
    have rA := (hI.1 a).2
    have ra_ := hv a (by omega)
    have rb_ := hv b (by omega)
    refine cx_run 100 mM_raise_mo ?_
    by_cases ga : gt a
    · have B1 : gr a = 1 := (hB _ (by omega)).1 ga
      by_cases gb : gt b
      · have B2 : gr b = 1 := (hB _ (by omega)).1 gb
        obtain ⟨bn, _, _, c, cc1, cc2, cc3, cc4⟩ := hgd b gb
        have vc : vp_in (nI c) 8 := nI_in cc1 (by decide)
        obtain ⟨m1, m2, m3, m4⟩ := hM a b ha (by omega)
        have db := hd b
        by_cases f : F a b < 1000000
        · have Z : ((1000000 : Int32) ≤ nI (F a b)) = False := (lek (a := F a b) (c := 1000000) (x := 1000000) rfl (by omega) (by decide)).trans (eq_false (by omega))
          by_cases g : S a b + d b ≤ P
          · have T := leT (a := S a b + d b) (b := P) g (by omega)
            have hc : rt_R gt d F S P a b ((F a b : Int)) := ⟨ga, gb, f, by rw [if_neg (by omega)]; omega⟩
            have hu : ∀ k', rt_R gt d F S P a b k' → k' = (F a b : Int) := fun k' h => by
              have := h.2.2.2
              rw [if_neg (by omega)] at this
              omega
            have D := due_le (a := r1 b) (b := F a b) (c := 0) (x := r1 a) (y := 0) rfl (by omega) (by omega) (by omega) (by omega)
            by_cases e : r1 b + 0 ≤ r1 a + F a b
            · have D2 := D.trans (eq_true e)
              simp (decide := true) only [BmM_raise, BSM, k45, k63, k68, k70, k79, k80, h81, E1, v1, v2, v3, vc, B1, B2, Z, T, D2, ra_, rb_, m1, m2, cc2, cc4, mu48, nI_add, nI_clamp (n := a) (by omega), nI_clamp (n := b) (by omega), nI_clamp (n := c) (by omega), nI_clamp (n := 48 * a + b) (by omega), nI_1, EV, EW, CT, ev_o, ev_is, ev_gd, List.length_cons, List.length_nil, Nat.reduceLT, Nat.reduceAdd, Nat.reduceEqDiff, Nat.reduceLeDiff, Int32.reduceLT, Int32.reduceLE, reduceIte, true_and, and_true, true_or, or_true, not_true_eq_false, not_false_eq_true, false_imp_iff, true_imp_iff, implies_true]
              refine ih (b + 1) w1 mr r1 mo _ _ (by omega) h81 hk hv (hI.up (by omega)) (ra_keep hC (by omega) hI hp rfl fun k h => ?_)
              rw [hu k h]
              omega
            · have D2 := D.trans (eq_false e)
              have D3 := due_eq (a := r1 b) (b := F a b) (c := 0) (y := 0) rfl (by omega) (by omega) (by omega) (by omega)
              simp (decide := true) only [BmM_raise, BSM, k45, k63, k68, k70, k79, k80, h81, E1, v1, v2, v3, vc, B1, B2, Z, T, D2, ra_, rb_, m1, m2, cc2, cc4, mu48, nI_add, nI_clamp (n := a) (by omega), nI_clamp (n := b) (by omega), nI_clamp (n := c) (by omega), nI_clamp (n := 48 * a + b) (by omega), nI_1, EV, EW, CT, ev_o, ev_is, ev_gd, List.length_cons, List.length_nil, Nat.reduceLT, Nat.reduceAdd, Nat.reduceEqDiff, Nat.reduceLeDiff, Int32.reduceLT, Int32.reduceLE, reduceIte, true_and, and_true, true_or, or_true, not_true_eq_false, not_false_eq_true, false_imp_iff, true_imp_iff, implies_true]
              obtain ⟨y1, y2⟩ := ra_put (x := r1 b + 0 - F a b) hC hu (by omega) hI hp rfl hc (by omega) (by omega) (by omega)
              refine ih (b + 1) _ (upd mr a (nI (r1 b + 0 - F a b))) _ 1 _ _ (by omega) (by simp only [cx_up, Nat.reduceEqDiff, reduceIte]; rw [D3]) (fun k z => by rw [← hk k z]; simp (disch := omega) only [cx_up, if_neg]) (hv.put a _) (y1.up (by omega)) y2
          · have T := leF (a := S a b + d b) (b := P) (by omega) (by omega)
            have hc : rt_R gt d F S P a b ((F a b : Int) - 1) := ⟨ga, gb, f, by rw [if_pos (by omega)]⟩
            have hu : ∀ k', rt_R gt d F S P a b k' → k' = (F a b : Int) - 1 := fun k' h => by
              have := h.2.2.2
              rw [if_pos (by omega)] at this
              omega
            have D := due_le (a := r1 b) (b := F a b) (c := 1) (x := r1 a) (y := 1) rfl (by omega) (by omega) (by omega) (by omega)
            by_cases e : r1 b + 1 ≤ r1 a + F a b
            · have D2 := D.trans (eq_true e)
              simp (decide := true) only [BmM_raise, BSM, k45, k63, k68, k70, k79, k80, h81, E1, v1, v2, v3, vc, B1, B2, Z, T, D2, ra_, rb_, m1, m2, cc2, cc4, mu48, nI_add, nI_clamp (n := a) (by omega), nI_clamp (n := b) (by omega), nI_clamp (n := c) (by omega), nI_clamp (n := 48 * a + b) (by omega), nI_1, EV, EW, CT, ev_o, ev_is, ev_gd, List.length_cons, List.length_nil, Nat.reduceLT, Nat.reduceAdd, Nat.reduceEqDiff, Nat.reduceLeDiff, Int32.reduceLT, Int32.reduceLE, reduceIte, true_and, and_true, true_or, or_true, not_true_eq_false, not_false_eq_true, false_imp_iff, true_imp_iff, implies_true]
              refine ih (b + 1) w1 mr r1 mo _ _ (by omega) h81 hk hv (hI.up (by omega)) (ra_keep hC (by omega) hI hp rfl fun k h => ?_)
              rw [hu k h]
              omega
            · have D2 := D.trans (eq_false e)
              have D3 := due_eq (a := r1 b) (b := F a b) (c := 1) (y := 1) rfl (by omega) (by omega) (by omega) (by omega)
              simp (decide := true) only [BmM_raise, BSM, k45, k63, k68, k70, k79, k80, h81, E1, v1, v2, v3, vc, B1, B2, Z, T, D2, ra_, rb_, m1, m2, cc2, cc4, mu48, nI_add, nI_clamp (n := a) (by omega), nI_clamp (n := b) (by omega), nI_clamp (n := c) (by omega), nI_clamp (n := 48 * a + b) (by omega), nI_1, EV, EW, CT, ev_o, ev_is, ev_gd, List.length_cons, List.length_nil, Nat.reduceLT, Nat.reduceAdd, Nat.reduceEqDiff, Nat.reduceLeDiff, Int32.reduceLT, Int32.reduceLE, reduceIte, true_and, and_true, true_or, or_true, not_true_eq_false, not_false_eq_true, false_imp_iff, true_imp_iff, implies_true]
              obtain ⟨y1, y2⟩ := ra_put (x := r1 b + 1 - F a b) hC hu (by omega) hI hp rfl hc (by omega) (by omega) (by omega)
              refine ih (b + 1) _ (upd mr a (nI (r1 b + 1 - F a b))) _ 1 _ _ (by omega) (by simp only [cx_up, Nat.reduceEqDiff, reduceIte]; rw [D3]) (fun k z => by rw [← hk k z]; simp (disch := omega) only [cx_up, if_neg]) (hv.put a _) (y1.up (by omega)) y2
        · have Z : ((1000000 : Int32) ≤ nI (F a b)) = True := (lek (a := F a b) (c := 1000000) (x := 1000000) rfl (by omega) (by decide)).trans (eq_true (by omega))
          simp (decide := true) only [BmM_raise, BSM, k45, k70, k79, E1, v1, v2, v3, B1, B2, Z, m1, mu48, nI_add, nI_clamp (n := a) (by omega), nI_clamp (n := b) (by omega), nI_clamp (n := 48 * a + b) (by omega), nI_1, EV, EW, CT, ev_o, ev_is, ev_gd, List.length_cons, List.length_nil, Nat.reduceLT, Nat.reduceAdd, Nat.reduceEqDiff, Nat.reduceLeDiff, Int32.reduceLT, Int32.reduceLE, reduceIte, true_and, and_true, true_or, or_true, not_true_eq_false, not_false_eq_true, false_imp_iff, true_imp_iff, implies_true]
          exact ih (b + 1) w1 mr r1 mo _ _ (by omega) h81 hk hv (hI.up (by omega)) (ra_keep hC (by omega) hI hp rfl fun k h => absurd h.2.2.1 f)
      · have B2 : gr b = 0 := (hB _ (by omega)).2 gb
        simp (decide := true) only [BmM_raise, BSM, k45, k70, E1, v1, v2, B1, B2, mu48, nI_add, nI_clamp (n := a) (by omega), nI_clamp (n := b) (by omega), nI_1, EV, EW, CT, ev_o, ev_is, ev_gd, List.length_cons, List.length_nil, Nat.reduceLT, Nat.reduceAdd, Nat.reduceEqDiff, Nat.reduceLeDiff, Int32.reduceLT, Int32.reduceLE, reduceIte, true_and, and_true, true_or, or_true, not_true_eq_false, not_false_eq_true, false_imp_iff, true_imp_iff, implies_true]
        exact ih (b + 1) w1 mr r1 mo _ _ (by omega) h81 hk hv (hI.up (by omega)) (ra_keep hC (by omega) hI hp rfl fun k h => absurd h.2.1 gb)
    · have B1 : gr a = 0 := (hB _ (by omega)).2 ga
      simp (decide := true) only [BmM_raise, BSM, k45, k70, E1, v1, B1, nI_clamp (n := a) (by omega), nI_1, EV, EW, CT, ev_o, ev_is, ev_gd, List.length_cons, List.length_nil, Nat.reduceLT, Nat.reduceAdd, Nat.reduceEqDiff, Nat.reduceLeDiff, Int32.reduceLT, Int32.reduceLE, reduceIte, true_and, and_true, true_or, or_true, not_true_eq_false, not_false_eq_true, false_imp_iff, true_imp_iff, implies_true]
      refine hQ w1 mr r1 mo _ _ _ h81 hk hv (hI.up (by omega)) (fun u v k hc hi => hp u v k hc ?_)
      have hne : ¬ u = a := fun e => ga (by rw [← e]; exact hc.1)
      have := (hgd v hc.2.1).1
      omega
set_option maxHeartbeats 16000000 in
theorem c_M_raise {w : cx_W} {n : Nat} {gt : Nat → Prop} {q pl d : Nat → Nat} {s lt st : Nat → Nat → Nat} {oc : Nat} {os ol ob : Nat → Nat} {pa dl ch gr so la_ fr sl mr0 : Nat → Int32} {sr : Nat → Int64} {x0 x1 x2 x4 x5 x6 x7 x8 x9 : Int32} {F S : Nat → Nat → Nat} {P B dd : Nat} {r0 : Nat → Nat} (hW : RmW w n gt q pl d s lt st oc os ol ob pa dl ch gr so la_ sr) (h45 : w 45 = oM x0 x1 x2 (nI n) x4 x5 x6 x7 x8 x9) (h79 : w 79 = ai 2304 fr) (h80 : w 80 = ai 2304 sl) (h81 : w 81 = ai 48 mr0) (hM : MxR n fr sl F S) (hP : P ≤ 30001000) (hB0 : B ≤ 1000000) (hv0 : MvR mr0 r0) (hr0 : ∀ u, r0 u ≤ B) :
    cx_MC mM_raise (dd + 1) 0 0 [.ref 45, .int (nI P)] w 87 (fun r_ w2 => ∃ (mr : Nat → Int32) (r1 : Nat → Nat) (mo : Int32), r_ = some (.int mo) ∧ w2 81 = ai 48 mr ∧ (∀ k, ¬ k = 81 → w2 k = w k) ∧ MvR mr r1 ∧ RaI gt (rt_R gt d F S P) r0 r1 mo (B + 2304) ∧ ∀ u v k, rt_R gt d F S P u v k → (r0 v : Int) ≤ (r1 u : Int) + k) := by
  have hn := hW.1.1
  have hgd := hW.2.2.1
  have out : ∀ (m a : Nat) (w1 : cx_W) (mr : Nat → Int32) (r1 : Nat → Nat) (mo : Int32) (l4 l5 l6 : Option Value), a + m = n → w1 81 = ai 48 mr → (∀ k, ¬ k = 81 → w1 k = w k) → MvR mr r1 → RaI gt (rt_R gt d F S P) r0 r1 mo (B + 48 * a) → PrI (rt_R gt d F S P) r0 r1 (48 * a) →
      cx_OK none mM_raise (dd + 1) 0 0 (fun r_ w2 _ => ∃ (mr : Nat → Int32) (r1 : Nat → Nat) (mo : Int32), r_ = some (.int mo) ∧ w2 81 = ai 48 mr ∧ (∀ k, ¬ k = 81 → w2 k = w k) ∧ MvR mr r1 ∧ RaI gt (rt_R gt d F S P) r0 r1 mo (B + 2304) ∧ ∀ u v k, rt_R gt d F S P u v k → (r0 v : Int) ≤ (r1 u : Int) + k) 4 [some (.ref 45), some (.int (nI P)), some (.int mo), some (.int (nI a)), l4, l5, l6] [] w1 (87, 0, 0) := by
    intro m
    induction m with
    | zero =>
      intro a w1 mr r1 mo l4 l5 l6 hm h81 hk hv hI hp
      have E1 := leT (a := n) (b := a) (by omega) (by omega)
      have k45 := (hk 45 (by decide)).trans h45
      refine cx_run 100 mM_raise_mo ?_
      simp (decide := true) only [BmM_raise, BSM, k45, E1, EV, EW, CT, ev_o, ev_is, ev_gd, List.length_cons, List.length_nil, Nat.reduceLT, Nat.reduceAdd, Nat.reduceEqDiff, Nat.reduceLeDiff, Int32.reduceLT, Int32.reduceLE, reduceIte, true_and, and_true, true_or, or_true, not_true_eq_false, not_false_eq_true, false_imp_iff, true_imp_iff, implies_true]
      have mo01 : mo = 0 ∨ mo = 1 := hI.2.2.2.elim (fun z => .inl z.1) (fun z => .inr z.1)
      refine ⟨mo01, mr, r1, mo, rfl, h81, hk, hv, hI.up (by omega), fun u v k hc => hp u v k hc ?_⟩
      have := (hgd u hc.1).1
      have := (hgd v hc.2.1).1
      omega
    | succ m ih =>
      intro a w1 mr r1 mo l4 l5 l6 hm h81 hk hv hI hp
      have E1 := leF (a := n) (b := a) (by omega) (by omega)
      have k45 := (hk 45 (by decide)).trans h45
      refine cx_run 100 mM_raise_mo ?_
      simp (decide := true) only [BmM_raise, BSM, k45, E1, EV, EW, CT, ev_o, ev_is, ev_gd, List.length_cons, List.length_nil, Nat.reduceLT, Nat.reduceAdd, Nat.reduceEqDiff, Nat.reduceLeDiff, Int32.reduceLT, Int32.reduceLE, reduceIte, true_and, and_true, true_or, or_true, not_true_eq_false, not_false_eq_true, false_imp_iff, true_imp_iff, implies_true]
      exact mra_in (w := w) (a := a) hW h45 h79 h80 hM hP hB0 (by omega) (fun w2 mr2 r2 mo2 l4 l5 l6 a1 a2 a3 a4 a5 => ih (a + 1) w2 mr2 r2 mo2 l4 l5 l6 (by omega) a1 a2 a3 a4 a5) n 0 w1 mr r1 mo _ _ (by omega) h81 hk hv hI hp
  refine cx_met 60 mM_raise_ok rfl ?_
  show cx_vc 60 none mM_raise (dd + 1) 0 0 _ _ 0 [some (.ref 45), some (.int (nI P)), none, none, none, none, none] [] w (87, 0, 0)
  simp (decide := true) only [BmM_raise, EV, EW, CT, ev_o, ev_is, ev_gd, List.length_cons, List.length_nil, Nat.reduceLT, Nat.reduceAdd, Nat.reduceEqDiff, Nat.reduceLeDiff, Int32.reduceLT, Int32.reduceLE, reduceIte, true_and, and_true, true_or, or_true, not_true_eq_false, not_false_eq_true, false_imp_iff, true_imp_iff, implies_true]
  exact out n 0 w mr0 r0 0 _ _ _ (by omega) h81 (fun _ _ => rfl) hv0 ⟨fun u => ⟨Nat.le_refl _, by have := hr0 u; omega⟩, fun _ _ => rfl, fun s _ h => h, .inl ⟨rfl, fun _ => rfl⟩⟩ (fun u v k _ h => by omega)
