/-! One cell of the moved circuit: the reference's side. Own work. -/
/-- what ends at a pin, as the reference reads it -/
theorem en_bit {k row sv : Nat} {v : Nat → Bool} (hkb : k + 1 ≤ 53) (hr : row < 2 ^ (k + 1)) : (lN row >>> ((nI k).toInt64 &&& 63) &&& (1 : Int32).toInt64).toInt32 = nI (rt_ar v sv (k + 1) row).toNat := by
  have hr63 : row < 2 ^ 63 := Nat.lt_of_lt_of_le hr (Nat.pow_le_pow_right (by decide) (by omega))
  rw [l_bit2 hr63 (by omega)]
  unfold rt_ar
  rw [if_neg (by omega), tb_bool]
  rfl
/-- the rows of the moved circuit on the reference's side -/
def KpR (gt : Nat → Prop) (pl : Nat → Nat) (oc : Nat) (kp : Nat → Int32) (kc : Nat → Nat → Nat) (ok : Nat → Nat) : Prop :=
  (∀ g p, gt g → p < pl g → kp (4 * g + p) = nI (kc g p) ∧ kc g p ≤ 53) ∧ ∀ o, o < oc → kp (192 + o) = nI (ok o) ∧ ok o ≤ 53
def PrR (gt : Nat → Prop) (pl : Nat → Nat) (oc : Nat) (pr : Nat → Int64) (kc kr : Nat → Nat → Nat) (ok okr : Nat → Nat) : Prop :=
  (∀ g p, gt g → p < pl g → pr (4 * g + p) = lN (kr g p) ∧ kr g p < 2 ^ kc g p) ∧ ∀ o, o < oc → pr (192 + o) = lN (okr o) ∧ okr o < 2 ^ ok o
/-- pin p of gate g has its value -/
def avP (KN : Nat → Prop) (s kc : Nat → Nat → Nat) (g p : Nat) : Prop := ¬ kc g p = 0 ∨ KN (s g p)
abbrev frK (k : Nat) : Prop := ¬ k = 84 ∧ ¬ k = 85 ∧ ¬ k = 86
set_option maxHeartbeats 16000000 in
theorem c_M_worked {w : cx_W} {n : Nat} {gt KN : Nat → Prop} {q pl d : Nat → Nat} {s lt st kc kr : Nat → Nat → Nat} {oc : Nat} {os ol ob ok okr : Nat → Nat} {pa dl ch gr so la_ kp kn sg op : Nat → Int32} {sr pr : Nat → Int64} {x0 x1 x2 x3 x4 x5 x6 x7 x8 x9 : Int32} {cv : Nat → Nat → Bool} {v f : Nat → Bool} {g : Nat} (hW : RmW w n gt q pl d s lt st oc os ol ob pa dl ch gr so la_ sr) (h45 : w 45 = oM x0 x1 x2 x3 x4 x5 x6 x7 x8 x9) (h76 : w 76 = ai 196 kp) (h78 : w 78 = al 196 pr) (h84 : w 84 = az 48 kn) (h85 : w 85 = ai 48 sg) (h86 : w 86 = ai 8 op) (hkp : KpR gt pl oc kp kc ok) (hpr : PrR gt pl oc pr kc kr ok okr) (hK : BR n kn KN) (hsg : ∀ j, j < n → KN j → sg j = nI (v j).toNat) (hg : gt g) (hcv : ∀ b, b < 2 ^ pl g → wkP (q g) b = (cv g b).toNat) (hval : v g = cv g (pb f (pl g))) (hf : ∀ p, p < pl g → f p = rt_ar v (s g p) (kc g p) (kr g p)) :
    cx_MC mM_worked 9 0 0 [.ref 45, .int (nI g)] w 87 (fun r_ w2 => (r_ = some (.int 1) ∧ (∀ p, p < pl g → avP KN s kc g p) ∧ w2 84 = az 48 (upd kn g 1) ∧ w2 85 = ai 48 (upd sg g (nI (v g).toNat)) ∧ (∃ op2, w2 86 = ai 8 op2) ∧ ∀ k, frK k → w2 k = w k) ∨ (r_ = some (.int 0) ∧ w2 = w ∧ ¬ ∀ p, p < pl g → avP KN s kc g p)) := by
  have hpl := pl4 hW g hg
  obtain ⟨⟨hn, hoc, h61, h63, h68, h70, h73, h74, h75⟩, hB, hgd, hd, hcn, hno, hon, hoo⟩ := hW
  obtain ⟨gn, hq, hp0, c, cc1, cc2, cc3, cc4⟩ := hgd g hg
  have vg : vp_in (nI g) 48 := nI_in (by omega) (by decide)
  have lp : ∀ (k p : Nat), p + k = pl g → (∀ p', p' < p → avP KN s kc g p') → cx_OK none mM_worked 9 0 0 (fun r_ w2 _ => (r_ = some (.int 1) ∧ (∀ p, p < pl g → avP KN s kc g p) ∧ w2 84 = az 48 (upd kn g 1) ∧ w2 85 = ai 48 (upd sg g (nI (v g).toNat)) ∧ (∃ op2, w2 86 = ai 8 op2) ∧ ∀ k, frK k → w2 k = w k) ∨ (r_ = some (.int 0) ∧ w2 = w ∧ ¬ ∀ p, p < pl g → avP KN s kc g p)) 16 [some (.ref 45), some (.int (nI g)), some (.int (nI (pl g))), some (.int (nI (pb f p))), some (.int (nI p))] [] w (87, 0, 0) := by
    intro k
    induction k with
    | zero =>
      intro p hp ha
      have e : p = pl g := by omega
      subst e
      have E := leT (a := pl g) (b := pl g) (by omega) (by omega)
      have hb := pb_lt f (pl g)
      have hv := hcv _ hb
      rw [← hval] at hv
      have h16 : 2 ^ pl g ≤ 2 ^ 4 := Nat.pow_le_pow_right (by decide) hpl
      refine cx_run 100 mM_worked_mo ?_
      simp (decide := true) only [BmM_worked, h45, h68, vg, E, cc2, nI_clamp (n := g) (by omega), EV, EW, CT, ev_o, ev_is, ev_gd, List.length_cons, List.length_nil, Nat.reduceLT, Nat.reduceAdd, Nat.reduceEqDiff, Nat.reduceLeDiff, Int32.reduceLT, Int32.reduceLE, reduceIte, true_and, and_true, true_or, or_true, not_true_eq_false, not_false_eq_true, false_imp_iff, true_imp_iff, implies_true]
      refine cx_cs1 8 0 0 (by decide) (c_M_work h45 h61 h86 cc1 cc3 hq (by omega)) fun r_ w2 h => ?_
      obtain ⟨rfl, ⟨op2, k86⟩, hk⟩ := h
      have k45 := (hk 45 (by decide)).trans h45
      have k84 := (hk 84 (by decide)).trans h84
      have k85 := (hk 85 (by decide)).trans h85
      simp (decide := true) only [BmM_worked, k45, k84, k85, vg, hv, nI_clamp (n := g) (by omega), EV, EW, CT, ev_o, ev_is, ev_gd, List.length_cons, List.length_nil, Nat.reduceLT, Nat.reduceAdd, Nat.reduceEqDiff, Nat.reduceLeDiff, Int32.reduceLT, Int32.reduceLE, reduceIte, true_and, and_true, true_or, or_true, not_true_eq_false, not_false_eq_true, false_imp_iff, true_imp_iff, implies_true]
      exact .inl ⟨ha, ⟨op2, k86⟩, fun k z => (if_neg z.1).trans ((if_neg z.2.1).trans (hk k z.2.2))⟩
    | succ k ih =>
      intro p hp ha
      have E := leF (a := pl g) (b := p) (by omega) (by omega)
      obtain ⟨c1, c2, c3, c4, c5, c6⟩ := hcn g p hg (by omega)
      obtain ⟨k1, k2⟩ := hkp.1 g p hg (by omega)
      obtain ⟨r1, r2⟩ := hpr.1 g p hg (by omega)
      have ve : vp_in (nI (4 * g + p)) 196 := nI_in (by omega) (by decide)
      have vs : vp_in (nI (s g p)) 48 := nI_in (by omega) (by decide)
      have PB := pb_or (f := f) (k := p) (by omega)
      have fp := hf p (by omega)
      have go : avP KN s kc g p → _ := fun hb => ih (p + 1) (by omega) fun p' h' => by
        by_cases e : p' = p
        · rw [e]; exact hb
        · exact ha p' (by omega)
      refine cx_run 160 mM_worked_mo ?_
      by_cases c : kc g p = 0
      · rw [c] at k1 fp
        by_cases kn_ : KN (s g p)
        · have B1 : kn (s g p) = 1 := (hK _ c4).1 kn_
          have B2 : sg (s g p) = nI (f p).toNat := by
            rw [hsg _ c4 kn_, fp]
            unfold rt_ar
            rw [if_pos rfl]
          simp (decide := true) only [BmM_worked, BmM_arrived, BmM_ending, h45, h73, h76, h84, h85, ve, vs, E, B1, B2, PB, c1, k1, mu4, nI_add, nI_1, nI_clamp (n := 4 * g + p) (by omega), nI_clamp (n := s g p) (by omega), EV, EW, CT, ev_o, ev_is, ev_gd, List.length_cons, List.length_nil, Nat.reduceLT, Nat.reduceAdd, Nat.reduceEqDiff, Nat.reduceLeDiff, Int32.reduceLT, Int32.reduceLE, reduceIte, true_and, and_true, true_or, or_true, not_true_eq_false, not_false_eq_true, false_imp_iff, true_imp_iff, implies_true]
          exact go (.inr kn_)
        · have B1 : kn (s g p) = 0 := (hK _ c4).2 kn_
          simp (decide := true) only [BmM_worked, BmM_arrived, BmM_ending, h45, h73, h76, h84, ve, vs, E, B1, c1, k1, mu4, nI_add, nI_1, nI_clamp (n := 4 * g + p) (by omega), nI_clamp (n := s g p) (by omega), EV, EW, CT, ev_o, ev_is, ev_gd, List.length_cons, List.length_nil, Nat.reduceLT, Nat.reduceAdd, Nat.reduceEqDiff, Nat.reduceLeDiff, Int32.reduceLT, Int32.reduceLE, reduceIte, true_and, and_true, true_or, or_true, not_true_eq_false, not_false_eq_true, false_imp_iff, true_imp_iff, implies_true]
          exact .inr fun z => (z p (by omega)).elim (fun y => y c) kn_
      · obtain ⟨k', hk'⟩ : ∃ k', kc g p = k' + 1 := ⟨kc g p - 1, by omega⟩
        rw [hk'] at k1 k2 fp r2
        have E2 : ((0 : Int32) < nI (k' + 1)) = True := ltT (a := 0) (b := k' + 1) (by omega) (by omega)
        have E3 : (nI (k' + 1) ≤ 0) = False := leF (a := k' + 1) (b := 0) (by omega) (by omega)
        have B := en_bit (sv := s g p) (v := v) k2 r2
        rw [← fp] at B
        simp (decide := true) only [BmM_worked, BmM_arrived, BmM_ending, h45, h76, h78, ve, E, E2, E3, B, PB, k1, r1, nI_pred, mu4, nI_add, nI_1, nI_clamp (n := 4 * g + p) (by omega), EV, EW, CT, ev_o, ev_is, ev_gd, List.length_cons, List.length_nil, Nat.reduceLT, Nat.reduceAdd, Nat.reduceEqDiff, Nat.reduceLeDiff, Int32.reduceLT, Int32.reduceLE, reduceIte, true_and, and_true, true_or, or_true, not_true_eq_false, not_false_eq_true, false_imp_iff, true_imp_iff, implies_true]
        exact go (.inl c)
  refine cx_met 60 mM_worked_ok rfl ?_
  show cx_vc 60 none mM_worked 9 0 0 _ _ 0 [some (.ref 45), some (.int (nI g)), none, none, none] [] w (87, 0, 0)
  simp (decide := true) only [BmM_worked, h45, h68, vg, cc2, nI_clamp (n := g) (by omega), EV, EW, CT, ev_o, ev_is, ev_gd, List.length_cons, List.length_nil, Nat.reduceLT, Nat.reduceAdd, Nat.reduceEqDiff, Nat.reduceLeDiff, Int32.reduceLT, Int32.reduceLE, reduceIte, true_and, and_true, true_or, or_true, not_true_eq_false, not_false_eq_true, false_imp_iff, true_imp_iff, implies_true]
  refine cx_cs1 8 0 0 (by decide) (c_M_pinsOf (dd := 8) h45 h61 cc1 cc3 hq) fun r_ w2 h => ?_
  obtain ⟨rfl, rfl⟩ := h
  rw [← hp0]
  simp (decide := true) only [BmM_worked, EV, EW, CT, ev_o, ev_is, ev_gd, List.length_cons, List.length_nil, Nat.reduceLT, Nat.reduceAdd, Nat.reduceEqDiff, Nat.reduceLeDiff, Int32.reduceLT, Int32.reduceLE, reduceIte, true_and, and_true, true_or, or_true, not_true_eq_false, not_false_eq_true, false_imp_iff, true_imp_iff, implies_true]
  exact lp (pl g) 0 (by omega) (fun p' h' => by omega)
