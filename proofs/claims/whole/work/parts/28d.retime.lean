/-! The rows behind the moves: the reference's side. Own work. -/
abbrev frR (k : Nat) : Prop := ¬ k = 76 ∧ ¬ k = 77 ∧ ¬ k = 78
/-- how many latches are kept, and their row -/
def kcn (s lt : Nat → Nat → Nat) (r : Nat → Nat) (g p : Nat) : Nat := lt g p + r (s g p) - r g
def kro (gv : Nat → Nat → Bool) (s lt st : Nat → Nat → Nat) (r : Nat → Nat) (g p : Nat) : Nat := rowv (rt_X gv (s g p) (lt g p) (st g p)) (r g) (kcn s lt r g p)
def ocn (os ol : Nat → Nat) (r : Nat → Nat) (o : Nat) : Nat := ol o + r (os o)
def oro (gv : Nat → Nat → Bool) (os ol ob : Nat → Nat) (r : Nat → Nat) (o : Nat) : Nat := rowv (rt_X gv (os o) (ol o) (ob o)) 0 (ocn os ol r o)
def KlI (gt : Nat → Prop) (pl : Nat → Nat) (gv : Nat → Nat → Bool) (s lt st : Nat → Nat → Nat) (oc : Nat) (os ol ob : Nat → Nat) (r : Nat → Nat) (kp : Nat → Int32) (lr pr : Nat → Int64) (i : Nat) : Prop :=
  (∀ g p, gt g → p < pl g → 4 * g + p < i → kp (4 * g + p) = nI (kcn s lt r g p) ∧ lr (4 * g + p) = lN (kro gv s lt st r g p) ∧ pr (4 * g + p) = lN (kro gv s lt st r g p)) ∧
  ∀ o, o < oc → 192 + o < i → kp (192 + o) = nI (ocn os ol r o) ∧ lr (192 + o) = lN (oro gv os ol ob r o) ∧ pr (192 + o) = lN (oro gv os ol ob r o)
theorem KlI_put {gt : Nat → Prop} {pl : Nat → Nat} {gv : Nat → Nat → Bool} {s lt st : Nat → Nat → Nat} {oc : Nat} {os ol ob : Nat → Nat} {r : Nat → Nat} {kp kp2 : Nat → Int32} {lr pr lr2 pr2 : Nat → Int64} {i : Nat} (hpl : ∀ g, gt g → g < 48 ∧ pl g ≤ 4) (h : KlI gt pl gv s lt st oc os ol ob r kp lr pr i) (hk : ∀ e, ¬ e = i → kp2 e = kp e ∧ lr2 e = lr e ∧ pr2 e = pr e)
    (h1 : gt (i / 4) → i % 4 < pl (i / 4) → i < 192 → kp2 i = nI (kcn s lt r (i / 4) (i % 4)) ∧ lr2 i = lN (kro gv s lt st r (i / 4) (i % 4)) ∧ pr2 i = lN (kro gv s lt st r (i / 4) (i % 4)))
    (h2 : 192 ≤ i → i - 192 < oc → kp2 i = nI (ocn os ol r (i - 192)) ∧ lr2 i = lN (oro gv os ol ob r (i - 192)) ∧ pr2 i = lN (oro gv os ol ob r (i - 192))) : KlI gt pl gv s lt st oc os ol ob r kp2 lr2 pr2 (i + 1) := by
  refine ⟨fun g p hg hp hi => ?_, fun o ho hi => ?_⟩
  · have := hpl g hg
    by_cases e : 4 * g + p = i
    · have e1 : i / 4 = g := by omega
      have e2 : i % 4 = p := by omega
      rw [e1, e2] at h1
      rw [e]
      exact h1 hg hp (by omega)
    · obtain ⟨a, b, c⟩ := hk _ e
      rw [a, b, c]
      exact h.1 g p hg hp (by omega)
  · by_cases e : 192 + o = i
    · have e1 : i - 192 = o := by omega
      rw [e1] at h2
      rw [e]
      exact h2 (by omega) ho
    · obtain ⟨a, b, c⟩ := hk _ e
      rw [a, b, c]
      exact h.2 o ho (by omega)
set_option maxHeartbeats 16000000 in
theorem mrt_row {w : cx_W} {e sv lv bv T A : Nat} {gv : Nat → Nat → Bool} {so la_ ga : Nat → Int32} {sr lr0 pr0 : Nat → Int64} {x0 x1 x2 x3 x4 x5 x6 x7 x8 x9 : Int32} {Q : cx_Q} (h45 : w 45 = oM x0 x1 x2 x3 x4 x5 x6 x7 x8 x9) (h73 : w 73 = ai 196 so) (h74 : w 74 = ai 196 la_) (h75 : w 75 = al 196 sr) (h82 : w 82 = ai 2304 ga) (h78 : w 78 = al 196 pr0) (he : e < 196) (hs : so e = nI sv) (hl : la_ e = nI lv) (hb : sr e = lN bv) (hsv : sv < 48) (hlv : lv ≤ 6) (hbv : bv < 2 ^ lv) (hA : A < 60) (hT : T ≤ A) (hX : ∀ j, j < A → j < lv ∨ (j - lv < 48 ∧ ga (48 * sv + (j - lv)) = nI (gv (j - lv) sv).toNat))
    (hQ : ∀ (w2 : cx_W) (lr pr : Nat → Int64) (l3 l4 l5 : Option Value), w2 77 = al 196 lr → w2 78 = al 196 pr → (∀ k, ¬ k = 77 ∧ ¬ k = 78 → w2 k = w k) → lr e = lN (rowv (rt_X gv sv lv bv) T (A - T)) → pr e = lN (rowv (rt_X gv sv lv bv) T (A - T)) → (∀ i, ¬ i = e → lr i = lr0 i ∧ pr i = pr0 i) → cx_OK none mM_retime 10 0 0 Q 77 [some (.ref 45), some (.int 0), some (.int (nI (e + 1))), l3, l4, l5] [] w2 (87, 0, 0)) :
    ∀ (k j : Nat) (w1 : cx_W) (lr : Nat → Int64), T + j + k = A → w1 77 = al 196 lr → (∀ k, ¬ k = 77 → w1 k = w k) → lr e = lN (rowv (rt_X gv sv lv bv) T j) → (∀ i, ¬ i = e → lr i = lr0 i) →
    cx_OK none mM_retime 10 0 0 Q 171 [some (.ref 45), some (.int 0), some (.int (nI e)), some (.int (nI T)), some (.int (nI A)), some (.int (nI (T + j)))] [] w1 (87, 0, 0) := by
  have ve : vp_in (nI e) 196 := nI_in he (by decide)
  intro k
  induction k with
  | zero =>
    intro j w1 lr hj h77 hk hle hlo
    have E := leT (a := A) (b := T + j) (by omega) (by omega)
    have k45 := (hk 45 (by decide)).trans h45
    have k78 := (hk 78 (by decide)).trans h78
    have ej : j = A - T := by omega
    refine cx_run 100 mM_retime_mo ?_
    simp (decide := true) only [BmM_retime, k45, k78, h77, ve, E, nI_1, nI_clamp (n := e) (by omega), EV, EW, CT, ev_o, ev_is, ev_gd, List.length_cons, List.length_nil, Nat.reduceLT, Nat.reduceAdd, Nat.reduceEqDiff, Nat.reduceLeDiff, Int32.reduceLT, Int32.reduceLE, reduceIte, true_and, and_true, true_or, or_true, not_true_eq_false, not_false_eq_true, false_imp_iff, true_imp_iff, implies_true]
    refine hQ _ lr (vp_updL pr0 e (lr e)) _ _ _ (by simp only [cx_up, Nat.reduceEqDiff, reduceIte]; exact h77) (by simp only [cx_up, Nat.reduceEqDiff, reduceIte]) (fun k z => by rw [← hk k z.1]; simp (disch := omega) only [cx_up, if_neg]) (ej ▸ hle) (by rw [pk_uLs]; exact ej ▸ hle) (fun i hi => ⟨hlo i hi, pk_uLn hi⟩)
  | succ k ih =>
    intro j w1 lr hj h77 hk hle hlo
    have E := leF (a := A) (b := T + j) (by omega) (by omega)
    have k45 := (hk 45 (by decide)).trans h45
    have k73 := (hk 73 (by decide)).trans h73
    have k74 := (hk 74 (by decide)).trans h74
    have k75 := (hk 75 (by decide)).trans h75
    have k82 := (hk 82 (by decide)).trans h82
    have LP := l_push (a := rowv (rt_X gv sv lv bv) T j) (b := (rt_X gv sv lv bv (T + j)).toNat) (by cases rt_X gv sv lv bv (T + j) <;> decide)
    have nx : ∀ w3 : cx_W, w3 77 = al 196 (vp_updL lr e (lN (2 * rowv (rt_X gv sv lv bv) T j + (rt_X gv sv lv bv (T + j)).toNat))) → (∀ k, ¬ k = 77 → w3 k = w1 k) → cx_OK none mM_retime 10 0 0 Q 171 [some (.ref 45), some (.int 0), some (.int (nI e)), some (.int (nI T)), some (.int (nI A)), some (.int (nI (T + j + 1)))] [] w3 (87, 0, 0) := fun w3 g77 gk =>
      ih (j + 1) w3 _ (by omega) g77 (fun k z => (gk k z).trans (hk k z)) (by rw [pk_uLs]; rfl) (fun i hi => by rw [pk_uLn hi]; exact hlo i hi)
    refine cx_run 160 mM_retime_mo ?_
    by_cases c : T + j < lv
    · have E3 := leF (a := lv) (b := T + j) c (by omega)
      obtain ⟨S1, B⟩ := co_bit (sv := sv) (gv := gv) hlv hbv c
      simp (decide := true) only [BmM_retime, BmM_comes, k45, k74, k75, h77, ve, E, E3, S1, B, LP, hle, hl, hb, nI_1, nI_clamp (n := e) (by omega), EV, EW, CT, ev_o, ev_is, ev_gd, List.length_cons, List.length_nil, Nat.reduceLT, Nat.reduceAdd, Nat.reduceEqDiff, Nat.reduceLeDiff, Int32.reduceLT, Int32.reduceLE, reduceIte, true_and, and_true, true_or, or_true, not_true_eq_false, not_false_eq_true, false_imp_iff, true_imp_iff, implies_true]
      exact nx _ (by simp only [cx_up, Nat.reduceEqDiff, reduceIte]) (fun k z => by simp (disch := omega) only [cx_up, if_neg])
    · have E3 := leT (a := lv) (b := T + j) (by omega) (by omega)
      obtain ⟨y1, y2⟩ := (hX (T + j) (by omega)).resolve_left c
      obtain ⟨S1, B⟩ := co_row (bv := bv) (gv := gv) c y2
      have v3 : vp_in (nI (48 * sv + (T + j - lv))) 2304 := nI_in (by omega) (by decide)
      simp (decide := true) only [BmM_retime, BmM_comes, k45, k73, k74, k82, h77, ve, v3, E, E3, S1, B, LP, hle, hl, hs, mu48, nI_add, nI_1, nI_clamp (n := e) (by omega), nI_clamp (n := 48 * sv + (T + j - lv)) (by omega), EV, EW, CT, ev_o, ev_is, ev_gd, List.length_cons, List.length_nil, Nat.reduceLT, Nat.reduceAdd, Nat.reduceEqDiff, Nat.reduceLeDiff, Int32.reduceLT, Int32.reduceLE, reduceIte, true_and, and_true, true_or, or_true, not_true_eq_false, not_false_eq_true, false_imp_iff, true_imp_iff, implies_true]
      exact nx _ (by simp only [cx_up, Nat.reduceEqDiff, reduceIte]) (fun k z => by simp (disch := omega) only [cx_up, if_neg])
set_option maxHeartbeats 16000000 in
theorem mrt_last {w : cx_W} {n : Nat} {gt : Nat → Prop} {q pl d : Nat → Nat} {s lt st : Nat → Nat → Nat} {oc : Nat} {os ol ob : Nat → Nat} {pa dl ch gr so la_ mr ga : Nat → Int32} {sr : Nat → Int64} {x0 x1 x2 x3 x4 x5 x6 x7 x8 x9 : Int32} {r : Nat → Nat} {gv : Nat → Nat → Bool} {Q : cx_Q} (hW : RmW w n gt q pl d s lt st oc os ol ob pa dl ch gr so la_ sr) (h45 : w 45 = oM x0 x1 x2 x3 x4 x5 x6 x7 x8 x9) (h81 : w 81 = ai 48 mr) (hmr : MvR mr r) (hr : ∀ u, r u ≤ 47) (h0 : ∀ u, ¬ gt u → r u = 0) (h82 : w 82 = ai 2304 ga) (hG : ∀ g, gt g → ∀ j, j < r g → ga (48 * g + j) = nI (gv j g).toNat)
    (hleg : ∀ g p, gt g → p < pl g → gt (s g p) → r g ≤ r (s g p) + lt g p) (hin : ∀ g p, gt g → p < pl g → ¬ gt (s g p) → r g ≤ lt g p)
    (hQ : ∀ (w2 : cx_W) (kp : Nat → Int32) (lr pr : Nat → Int64), w2 76 = ai 196 kp → w2 77 = al 196 lr → w2 78 = al 196 pr → (∀ k, frR k → w2 k = w k) → KlI gt pl gv s lt st oc os ol ob r kp lr pr 196 → Q none w2 (87, 0, 0)) :
    ∀ (k i : Nat) (w1 : cx_W) (kp : Nat → Int32) (lr pr : Nat → Int64) (l3 l4 l5 : Option Value), i + k = 196 → w1 76 = ai 196 kp → w1 77 = al 196 lr → w1 78 = al 196 pr → (∀ k, frR k → w1 k = w k) → KlI gt pl gv s lt st oc os ol ob r kp lr pr i →
    cx_OK none mM_retime 10 0 0 Q 77 [some (.ref 45), some (.int 0), some (.int (nI i)), l3, l4, l5] [] w1 (87, 0, 0) := by
  have hpl : ∀ g, gt g → g < 48 ∧ pl g ≤ 4 := fun g hg => ⟨by have := (hW.2.2.1 g hg).1; have := hW.1.1; omega, pl4 hW g hg⟩
  obtain ⟨⟨hn, hoc, h61, h63, h68, h70, h73, h74, h75⟩, hB, hgd, hd, hcn, hno, hon, hoo⟩ := hW
  intro k
  induction k with
  | zero =>
    intro i w1 kp lr pr l3 l4 l5 hi h76 h77 h78 hk hI
    have e : i = 196 := by omega
    subst e
    have E : ((196 : Int32) ≤ nI 196) = True := by decide
    refine cx_run 120 mM_retime_mo ?_
    simp (decide := true) only [BmM_retime, E, EV, EW, CT, ev_o, ev_is, ev_gd, List.length_cons, List.length_nil, Nat.reduceLT, Nat.reduceAdd, Nat.reduceEqDiff, Nat.reduceLeDiff, Int32.reduceLT, Int32.reduceLE, reduceIte, true_and, and_true, true_or, or_true, not_true_eq_false, not_false_eq_true, false_imp_iff, true_imp_iff, implies_true]
    exact hQ w1 kp lr pr h76 h77 h78 hk hI
  | succ k ih =>
    intro i w1 kp lr pr l3 l4 l5 hi h76 h77 h78 hk hI
    have E : ((196 : Int32) ≤ nI i) = False := (lek (a := i) (c := 196) (x := 196) rfl (by omega) (by decide)).trans (eq_false (by omega))
    have k45 := (hk 45 (by decide)).trans h45
    have k70 := (hk 70 (by decide)).trans h70
    have k73 := (hk 73 (by decide)).trans h73
    have k74 := (hk 74 (by decide)).trans h74
    have k75 := (hk 75 (by decide)).trans h75
    have k81 := (hk 81 (by decide)).trans h81
    have k82 := (hk 82 (by decide)).trans h82
    have vi : vp_in (nI i) 196 := nI_in (by omega) (by decide)
    have D := divK (a := i) (c := 4) (x := 4) rfl (by omega) (by decide)
    have Ec := lek (a := i) (c := 192) (x := 192) rfl (by omega) (by decide)
    -- one connection that is there
    have main : ∀ (sv lv bv T : Nat) (l3 l4 l5 : Option Value) (w3 : cx_W), so i = nI sv → la_ i = nI lv → sr i = lN bv → sv < 48 → lv ≤ 6 → bv < 2 ^ lv → T ≤ lv + r sv →
        w3 76 = ai 196 (upd kp i (nI (lv + r sv - T))) → w3 77 = al 196 (vp_updL lr i (lN 0)) → (∀ k, ¬ k = 76 ∧ ¬ k = 77 → w3 k = w1 k) →
        (gt (i / 4) → i % 4 < pl (i / 4) → i < 192 → lv + r sv - T = kcn s lt r (i / 4) (i % 4) ∧ rowv (rt_X gv sv lv bv) T (lv + r sv - T) = kro gv s lt st r (i / 4) (i % 4)) →
        (192 ≤ i → i - 192 < oc → lv + r sv - T = ocn os ol r (i - 192) ∧ rowv (rt_X gv sv lv bv) T (lv + r sv - T) = oro gv os ol ob r (i - 192)) →
        cx_OK none mM_retime 10 0 0 Q 171 [some (.ref 45), some (.int 0), some (.int (nI i)), some (.int (nI T)), some (.int (nI (lv + r sv))), some (.int (nI T))] [] w3 (87, 0, 0) := by
      intro sv lv bv T l3 l4 l5 w3 e1 e2 e3 hsv hlv hbv hT g76 g77 g78 y1 y2
      have hrs := hr sv
      refine mrt_row (w := w3) (lr0 := lr) (pr0 := pr) (gv := gv) (A := lv + r sv) ((g78 45 (by decide)).trans k45) ((g78 73 (by decide)).trans k73) ((g78 74 (by decide)).trans k74) ((g78 75 (by decide)).trans k75) ((g78 82 (by decide)).trans k82) ((g78 78 (by decide)).trans h78) (by omega) e1 e2 e3 hsv hlv hbv (by omega) hT (fun j hj => ?_) (fun w4 lr4 pr4 l3 l4 l5 b1 b2 b3 b4 b5 b6 => ?_) (lv + r sv - T) 0 w3 (vp_updL lr i (lN 0)) (by omega) g77 (fun _ _ => rfl) (by rw [pk_uLs]; rfl) (fun j hj => pk_uLn hj)
      · by_cases c : j < lv
        · exact .inl c
        · by_cases g : gt sv
          · exact .inr ⟨by omega, hG sv g _ (by omega)⟩
          · have := h0 sv g
            omega
      · refine ih (i + 1) w4 (upd kp i (nI (lv + r sv - T))) lr4 pr4 _ _ _ (by omega) ((b3 76 (by decide)).trans g76) b1 b2 (fun k z => (b3 k z.2).trans ((g78 k ⟨z.1, z.2.1⟩).trans (hk k z))) (KlI_put hpl hI (fun e he => ⟨pk_un he, b6 e he⟩) (fun a b c => ?_) (fun a b => ?_))
        · obtain ⟨z1, z2⟩ := y1 a b c
          rw [pk_us, b4, b5, z2, z1]
          exact ⟨rfl, rfl, rfl⟩
        · obtain ⟨z1, z2⟩ := y2 a b
          rw [pk_us, b4, b5, z2, z1]
          exact ⟨rfl, rfl, rfl⟩
    have skip : ¬ (i < 192 ∧ gt (i / 4) ∧ i % 4 < pl (i / 4)) → ¬ (192 ≤ i ∧ i - 192 < oc) → ∀ l3 l4 l5, cx_OK none mM_retime 10 0 0 Q 77 [some (.ref 45), some (.int 0), some (.int (nI (i + 1))), l3, l4, l5] [] w1 (87, 0, 0) := fun n1 n2 l3 l4 l5 =>
      ih (i + 1) w1 kp lr pr l3 l4 l5 (by omega) h76 h77 h78 hk (KlI_put hpl hI (fun e he => ⟨rfl, rfl, rfl⟩) (fun a b c => absurd ⟨c, a, b⟩ n1) (fun a b => absurd ⟨a, b⟩ n2))
    refine cx_run 120 mM_retime_mo ?_
    by_cases c : i < 192
    · have Ec2 := Ec.trans (eq_false (by omega))
      by_cases c2 : gt (i / 4) ∧ i % 4 < pl (i / 4)
      · have hc := hcn (i / 4) (i % 4) c2.1 c2.2
        rw [show 4 * (i / 4) + i % 4 = i from Nat.div_add_mod i 4] at hc
        obtain ⟨c1, c3, c4, c5, c6, c7⟩ := hc
        have L0 : (nI (s (i / 4) (i % 4)) < 0) = False := eq_false (nI_pos (by omega))
        have vs : vp_in (nI (s (i / 4) (i % 4))) 48 := nI_in (by omega) (by decide)
        have vd : vp_in (nI (i / 4)) 48 := nI_in (by omega) (by decide)
        have rT := hmr (i / 4) (by omega)
        have rS := hmr (s (i / 4) (i % 4)) (by omega)
        have b1 := hr (i / 4)
        have b2 := hr (s (i / 4) (i % 4))
        by_cases g : gt (s (i / 4) (i % 4))
        · have B1 : gr (s (i / 4) (i % 4)) = 1 := (hB _ (by omega)).1 g
          have hle := hleg (i / 4) (i % 4) c2.1 c2.2 g
          have SB : nI (lt (i / 4) (i % 4) + r (s (i / 4) (i % 4))) - nI (r (i / 4)) = nI (lt (i / 4) (i % 4) + r (s (i / 4) (i % 4)) - r (i / 4)) := nI_sb (by omega)
          simp (decide := true) only [BmM_retime, k45, k70, k73, k74, k81, h76, h77, vi, vs, vd, E, Ec2, D, L0, B1, c1, c3, rT, rS, SB, nI_add, nI_clamp (n := i) (by omega), nI_clamp (n := i / 4) (by omega), nI_clamp (n := s (i / 4) (i % 4)) (by omega), EV, EW, CT, ev_o, ev_is, ev_gd, List.length_cons, List.length_nil, Nat.reduceLT, Nat.reduceAdd, Nat.reduceEqDiff, Nat.reduceLeDiff, Int32.reduceLT, Int32.reduceLE, reduceIte, true_and, and_true, true_or, or_true, not_true_eq_false, not_false_eq_true, false_imp_iff, true_imp_iff, implies_true]
          exact main (s (i / 4) (i % 4)) (lt (i / 4) (i % 4)) (st (i / 4) (i % 4)) (r (i / 4)) l3 l4 l5 _ c1 c3 c4 (by omega) c6 c7 (by omega) (by simp only [cx_up, Nat.reduceEqDiff, reduceIte]) (by simp only [cx_up, Nat.reduceEqDiff, reduceIte]; rfl) (fun k z => by simp (disch := omega) only [cx_up, if_neg]) (fun _ _ _ => ⟨rfl, rfl⟩) (fun a _ => by omega)
        · have B1 : gr (s (i / 4) (i % 4)) = 0 := (hB _ (by omega)).2 g
          have hle := hin (i / 4) (i % 4) c2.1 c2.2 g
          have r0 := h0 _ g
          have SB : nI (lt (i / 4) (i % 4)) + 0 - nI (r (i / 4)) = nI (lt (i / 4) (i % 4) + r (s (i / 4) (i % 4)) - r (i / 4)) := by rw [r0, Int32.add_zero, nI_sb (by omega)]; rfl
          have AZ : nI (lt (i / 4) (i % 4)) + 0 = nI (lt (i / 4) (i % 4) + r (s (i / 4) (i % 4))) := by rw [r0, Int32.add_zero]; rfl
          simp (decide := true) only [BmM_retime, k45, k70, k73, k74, k81, h76, h77, vi, vs, vd, E, Ec2, D, L0, B1, c1, c3, rT, SB, nI_clamp (n := i) (by omega), nI_clamp (n := i / 4) (by omega), nI_clamp (n := s (i / 4) (i % 4)) (by omega), EV, EW, CT, ev_o, ev_is, ev_gd, List.length_cons, List.length_nil, Nat.reduceLT, Nat.reduceAdd, Nat.reduceEqDiff, Nat.reduceLeDiff, Int32.reduceLT, Int32.reduceLE, reduceIte, true_and, and_true, true_or, or_true, not_true_eq_false, not_false_eq_true, false_imp_iff, true_imp_iff, implies_true]
          rw [AZ]
          exact main (s (i / 4) (i % 4)) (lt (i / 4) (i % 4)) (st (i / 4) (i % 4)) (r (i / 4)) l3 l4 l5 _ c1 c3 c4 (by omega) c6 c7 (by omega) (by simp only [cx_up, Nat.reduceEqDiff, reduceIte]) (by simp only [cx_up, Nat.reduceEqDiff, reduceIte]; rfl) (fun k z => by simp (disch := omega) only [cx_up, if_neg]) (fun _ _ _ => ⟨rfl, rfl⟩) (fun a _ => by omega)
      · have c1 := hno i c c2
        have L0 : ((-1 : Int32) < 0) = True := by decide
        simp (decide := true) only [BmM_retime, k45, k73, vi, E, c1, L0, nI_1, nI_clamp (n := i) (by omega), EV, EW, CT, ev_o, ev_is, ev_gd, List.length_cons, List.length_nil, Nat.reduceLT, Nat.reduceAdd, Nat.reduceEqDiff, Nat.reduceLeDiff, Int32.reduceLT, Int32.reduceLE, reduceIte, true_and, and_true, true_or, or_true, not_true_eq_false, not_false_eq_true, false_imp_iff, true_imp_iff, implies_true]
        exact skip (fun z => c2 z.2) (fun z => by omega) _ _ _
    · have Ec2 := Ec.trans (eq_true (by omega))
      by_cases c2 : i - 192 < oc
      · have hc := hon (i - 192) c2
        rw [show 192 + (i - 192) = i by omega] at hc
        obtain ⟨c1, c3, c4, c5, c6, c7⟩ := hc
        have L0 : (nI (os (i - 192)) < 0) = False := eq_false (nI_pos (by omega))
        have vs : vp_in (nI (os (i - 192))) 48 := nI_in (by omega) (by decide)
        have rS := hmr (os (i - 192)) (by omega)
        have b2 := hr (os (i - 192))
        by_cases g : gt (os (i - 192))
        · have B1 : gr (os (i - 192)) = 1 := (hB _ (by omega)).1 g
          have SB : nI (ol (i - 192) + r (os (i - 192))) - 0 = nI (ol (i - 192) + r (os (i - 192)) - 0) := subZ _
          simp (decide := true) only [BmM_retime, k45, k70, k73, k74, k81, h76, h77, vi, vs, E, Ec2, L0, B1, c1, c3, rS, SB, nI_add, nI_clamp (n := i) (by omega), nI_clamp (n := os (i - 192)) (by omega), EV, EW, CT, ev_o, ev_is, ev_gd, List.length_cons, List.length_nil, Nat.reduceLT, Nat.reduceAdd, Nat.reduceEqDiff, Nat.reduceLeDiff, Int32.reduceLT, Int32.reduceLE, reduceIte, true_and, and_true, true_or, or_true, not_true_eq_false, not_false_eq_true, false_imp_iff, true_imp_iff, implies_true]
          exact main (os (i - 192)) (ol (i - 192)) (ob (i - 192)) 0 l3 l4 l5 _ c1 c3 c4 (by omega) c6 c7 (by omega) (by simp only [cx_up, Nat.reduceEqDiff, reduceIte]) (by simp only [cx_up, Nat.reduceEqDiff, reduceIte]; rfl) (fun k z => by simp (disch := omega) only [cx_up, if_neg]) (fun _ _ z => absurd z c) (fun _ _ => ⟨rfl, rfl⟩)
        · have B1 : gr (os (i - 192)) = 0 := (hB _ (by omega)).2 g
          have r0 := h0 _ g
          have AZ : nI (ol (i - 192)) + 0 = nI (ol (i - 192) + r (os (i - 192))) := by rw [r0, Int32.add_zero]; rfl
          have SB : nI (ol (i - 192)) + 0 - 0 = nI (ol (i - 192) + r (os (i - 192)) - 0) := (subZ _).trans AZ
          simp (decide := true) only [BmM_retime, k45, k70, k73, k74, k81, h76, h77, vi, vs, E, Ec2, L0, B1, c1, c3, SB, nI_clamp (n := i) (by omega), nI_clamp (n := os (i - 192)) (by omega), EV, EW, CT, ev_o, ev_is, ev_gd, List.length_cons, List.length_nil, Nat.reduceLT, Nat.reduceAdd, Nat.reduceEqDiff, Nat.reduceLeDiff, Int32.reduceLT, Int32.reduceLE, reduceIte, true_and, and_true, true_or, or_true, not_true_eq_false, not_false_eq_true, false_imp_iff, true_imp_iff, implies_true]
          rw [AZ]
          exact main (os (i - 192)) (ol (i - 192)) (ob (i - 192)) 0 l3 l4 l5 _ c1 c3 c4 (by omega) c6 c7 (by omega) (by simp only [cx_up, Nat.reduceEqDiff, reduceIte]) (by simp only [cx_up, Nat.reduceEqDiff, reduceIte]; rfl) (fun k z => by simp (disch := omega) only [cx_up, if_neg]) (fun _ _ z => absurd z c) (fun _ _ => ⟨rfl, rfl⟩)
      · have c1 := hoo i (by omega) (by omega)
        have L0 : ((-1 : Int32) < 0) = True := by decide
        simp (decide := true) only [BmM_retime, k45, k73, vi, E, c1, L0, nI_1, nI_clamp (n := i) (by omega), EV, EW, CT, ev_o, ev_is, ev_gd, List.length_cons, List.length_nil, Nat.reduceLT, Nat.reduceAdd, Nat.reduceEqDiff, Nat.reduceLeDiff, Int32.reduceLT, Int32.reduceLE, reduceIte, true_and, and_true, true_or, or_true, not_true_eq_false, not_false_eq_true, false_imp_iff, true_imp_iff, implies_true]
        exact skip (fun z => c z.1) (fun z => c2 z.2) _ _ _
set_option maxHeartbeats 16000000 in
theorem mrt_zero {w : cx_W} {Q : cx_Q} {x0 x1 x2 x3 x4 x5 x6 x7 x8 x9 : Int32} (h45 : w 45 = oM x0 x1 x2 x3 x4 x5 x6 x7 x8 x9) (hQ : ∀ (w1 : cx_W) (gi : Nat → Int32) (l2 l3 l4 l5 : Option Value), w1 83 = ai 48 gi → (∀ k, ¬ k = 83 → w1 k = w k) → MvR gi (fun _ => 0) → cx_OK none mM_retime 10 0 0 Q 23 [some (.ref 45), some (.int 1), l2, l3, l4, l5] [] w1 (87, 0, 0)) :
    ∀ (m i : Nat) (w1 : cx_W) (gi : Nat → Int32) (l2 l3 l4 l5 : Option Value), i + m = 48 → w1 83 = ai 48 gi → (∀ k, ¬ k = 83 → w1 k = w k) → (∀ j, j < i → gi j = 0) →
    cx_OK none mM_retime 10 0 0 Q 2 [some (.ref 45), some (.int (nI i)), l2, l3, l4, l5] [] w1 (87, 0, 0) := by
  intro m
  induction m with
  | zero =>
    intro i w1 gi l2 l3 l4 l5 hm h83 hk hv
    have E1 : ((48 : Int32) ≤ nI i) = True := (lek (a := i) (c := 48) (x := 48) rfl (by omega) (by decide)).trans (eq_true (by omega))
    refine cx_run 100 mM_retime_mo ?_
    simp (decide := true) only [BmM_retime, E1, EV, EW, CT, ev_o, ev_is, ev_gd, List.length_cons, List.length_nil, Nat.reduceLT, Nat.reduceAdd, Nat.reduceEqDiff, Nat.reduceLeDiff, Int32.reduceLT, Int32.reduceLE, reduceIte, true_and, and_true, true_or, or_true, not_true_eq_false, not_false_eq_true, false_imp_iff, true_imp_iff, implies_true]
    exact hQ w1 gi _ _ _ _ h83 hk fun j hj => hv j (by omega)
  | succ m ih =>
    intro i w1 gi l2 l3 l4 l5 hm h83 hk hv
    have E1 : ((48 : Int32) ≤ nI i) = False := (lek (a := i) (c := 48) (x := 48) rfl (by omega) (by decide)).trans (eq_false (by omega))
    have k45 := (hk 45 (by decide)).trans h45
    have v1 : vp_in (nI i) 48 := nI_in (by omega) (by decide)
    refine cx_run 100 mM_retime_mo ?_
    simp (decide := true) only [BmM_retime, k45, h83, E1, v1, nI_clamp (n := i) (by omega), nI_1, EV, EW, CT, ev_o, ev_is, ev_gd, List.length_cons, List.length_nil, Nat.reduceLT, Nat.reduceAdd, Nat.reduceEqDiff, Nat.reduceLeDiff, Int32.reduceLT, Int32.reduceLE, reduceIte, true_and, and_true, true_or, or_true, not_true_eq_false, not_false_eq_true, false_imp_iff, true_imp_iff, implies_true]
    refine ih (i + 1) _ (upd gi i 0) _ _ _ _ (by omega) (by simp only [cx_up, Nat.reduceEqDiff, reduceIte]) (fun k z => by rw [← hk k z]; simp (disch := omega) only [cx_up, if_neg]) fun j hj => ?_
    by_cases e : j = i
    · rw [e, pk_us]
    · rw [pk_un e]; exact hv j (by omega)
set_option maxHeartbeats 8000000 in
theorem c_M_retime {w : cx_W} {n : Nat} {gt : Nat → Prop} {q pl d : Nat → Nat} {s lt st : Nat → Nat → Nat} {oc : Nat} {os ol ob : Nat → Nat} {pa dl ch gr so la_ mr ga gi op kp : Nat → Int32} {sr lr pr : Nat → Int64} {x0 x1 x2 x4 x5 x6 x7 x8 x9 : Int32} {r : Nat → Nat} {cv : Nat → Nat → Bool} (hW : RmW w n gt q pl d s lt st oc os ol ob pa dl ch gr so la_ sr) (h45 : w 45 = oM x0 x1 x2 (nI n) x4 x5 x6 x7 x8 x9) (h81 : w 81 = ai 48 mr) (hmr : MvR mr r) (hr : ∀ u, r u ≤ 47) (h0 : ∀ u, ¬ gt u → r u = 0) (hcv : ∀ g, gt g → ∀ b, b < 2 ^ pl g → wkP (q g) b = (cv g b).toNat) (hz : ∀ g p, gt g → p < pl g → lt g p = 0 → s g p < g)
    (hleg : ∀ g p, gt g → p < pl g → gt (s g p) → r g ≤ r (s g p) + lt g p) (hin : ∀ g p, gt g → p < pl g → ¬ gt (s g p) → r g ≤ lt g p) (h76 : w 76 = ai 196 kp) (h77 : w 77 = al 196 lr) (h78 : w 78 = al 196 pr) (h82 : w 82 = ai 2304 ga) (h83 : w 83 = ai 48 gi) (h86 : w 86 = ai 8 op) :
    cx_MC mM_retime 10 0 0 [.ref 45] w 87 (fun r_ w2 => r_ = none ∧ ∃ (kp ga gi op : Nat → Int32) (lr pr : Nat → Int64), w2 76 = ai 196 kp ∧ w2 77 = al 196 lr ∧ w2 78 = al 196 pr ∧ w2 82 = ai 2304 ga ∧ w2 83 = ai 48 gi ∧ w2 86 = ai 8 op ∧ (∀ k, frR k ∧ frG k → w2 k = w k) ∧ KlI gt pl (rt_gv pl s lt st cv) s lt st oc os ol ob r kp lr pr 196) := by
  refine cx_met 60 mM_retime_ok rfl ?_
  show cx_vc 60 none mM_retime 10 0 0 _ _ 0 [some (.ref 45), none, none, none, none, none] [] w (87, 0, 0)
  simp (decide := true) only [BmM_retime, EV, EW, CT, ev_o, ev_is, ev_gd, List.length_cons, List.length_nil, Nat.reduceLT, Nat.reduceAdd, Nat.reduceEqDiff, Nat.reduceLeDiff, Int32.reduceLT, Int32.reduceLE, reduceIte, true_and, and_true, true_or, or_true, not_true_eq_false, not_false_eq_true, false_imp_iff, true_imp_iff, implies_true]
  refine mrt_zero (w := w) h45 (fun w1 gi1 l2 l3 l4 l5 a b c => ?_) 48 0 w gi _ _ _ _ (by omega) h83 (fun _ _ => rfl) (fun j h => by omega)
  have sz : rt_sum gt (fun u => (((fun _ => 0 : Nat → Nat) u : Nat) : Int)) n = 0 := rt_sum_zero
  refine mrt_rounds (w := w) (r := r) (cv := cv) hW h45 h81 hmr hr hcv hz hleg hin (fun w2 m l3 l4 l5 hS hm => ?_) 2257 w1 (fun _ => 0) _ _ _ _ (by rw [sz]; omega) ⟨ga, gi1, op, (b 82 (by decide)).trans h82, a, (b 86 (by decide)).trans h86, fun k z => b k z.2.1, c, fun _ => Nat.zero_le _, fun g _ j hj => absurd hj (Nat.not_lt_zero j)⟩
  obtain ⟨ga2, gi2, op2, a1, a2, a3, a4, a5, a6⟩ := hS
  refine mrt_last (w := w2) (r := r) (gv := rt_gv pl s lt st cv) (hW.of fun k z => a4 k (by unfold frG; omega)) ((a4 45 (by decide)).trans h45) ((a4 81 (by decide)).trans h81) hmr hr h0 a1 (fun g hg j hj => a6.2 g hg j (by rw [hm g hg]; exact hj)) hleg hin (fun w3 kp3 lr3 pr3 b1 b2 b3 b4 b5 => ⟨rfl, kp3, ga2, gi2, op2, lr3, pr3, b1, b2, b3, (b4 82 (by decide)).trans a1, (b4 83 (by decide)).trans a2, (b4 86 (by decide)).trans a3, fun k z => (b4 k z.1).trans (a4 k z.2), b5⟩) 196 0 w2 kp lr pr _ _ _ (by omega) ((a4 76 (by decide)).trans h76) ((a4 77 (by decide)).trans h77) ((a4 78 (by decide)).trans h78) (fun _ _ => rfl) ⟨fun _ _ _ _ h => by omega, fun _ _ h => by omega⟩
set_option maxHeartbeats 8000000 in
theorem c_M_gates {w : cx_W} {n dd : Nat} {gt : Nat → Prop} {gr : Nat → Int32} {x0 x1 x2 x4 x5 x6 x7 x8 x9 : Int32} (hn : n ≤ 48) (h45 : w 45 = oM x0 x1 x2 (nI n) x4 x5 x6 x7 x8 x9) (h70 : w 70 = az 48 gr) (hB : BR 48 gr gt) :
    cx_MC mM_gates dd 0 0 [.ref 45] w 87 (fun r_ w2 => r_ = some (.int (nI (rt_cnt gt n))) ∧ w2 = w) := by
  have lp : ∀ (k i : Nat), i + k = n → cx_OK none mM_gates dd 0 0 (fun r_ w2 _ => r_ = some (.int (nI (rt_cnt gt n))) ∧ w2 = w) 4 [some (.ref 45), some (.int (nI (rt_cnt gt i))), some (.int (nI i))] [] w (87, 0, 0) := by
    intro k
    induction k with
    | zero =>
      intro i hi
      have e : i = n := by omega
      subst e
      have E := leT (a := i) (b := i) (by omega) (by omega)
      refine cx_run 60 mM_gates_mo ?_
      simp (decide := true) only [BmM_gates, h45, E, EV, EW, CT, ev_o, ev_is, ev_gd, List.length_cons, List.length_nil, Nat.reduceLT, Nat.reduceAdd, Nat.reduceEqDiff, Nat.reduceLeDiff, Int32.reduceLT, Int32.reduceLE, reduceIte, true_and, and_true, true_or, or_true, not_true_eq_false, not_false_eq_true, false_imp_iff, true_imp_iff, implies_true]
    | succ k ih =>
      intro i hi
      have E := leF (a := n) (b := i) (by omega) (by omega)
      have vi : vp_in (nI i) 48 := nI_in (by omega) (by decide)
      have nx := ih (i + 1) (by omega)
      rw [rt_cnt] at nx
      refine cx_run 60 mM_gates_mo ?_
      by_cases g : gt i
      · have B1 : gr i = 1 := (hB _ (by omega)).1 g
        rw [if_pos g] at nx
        simp (decide := true) only [BmM_gates, h45, h70, E, vi, B1, nI_1, nI_clamp (n := i) (by omega), EV, EW, CT, ev_o, ev_is, ev_gd, List.length_cons, List.length_nil, Nat.reduceLT, Nat.reduceAdd, Nat.reduceEqDiff, Nat.reduceLeDiff, Int32.reduceLT, Int32.reduceLE, reduceIte, true_and, and_true, true_or, or_true, not_true_eq_false, not_false_eq_true, false_imp_iff, true_imp_iff, implies_true]
        exact nx
      · have B1 : gr i = 0 := (hB _ (by omega)).2 g
        rw [if_neg g] at nx
        simp (decide := true) only [BmM_gates, h45, h70, E, vi, B1, nI_1, nI_clamp (n := i) (by omega), EV, EW, CT, ev_o, ev_is, ev_gd, List.length_cons, List.length_nil, Nat.reduceLT, Nat.reduceAdd, Nat.reduceEqDiff, Nat.reduceLeDiff, Int32.reduceLT, Int32.reduceLE, reduceIte, true_and, and_true, true_or, or_true, not_true_eq_false, not_false_eq_true, false_imp_iff, true_imp_iff, implies_true]
        exact nx
  refine cx_met 60 mM_gates_ok rfl ?_
  show cx_vc 60 none mM_gates dd 0 0 _ _ 0 [some (.ref 45), none, none] [] w (87, 0, 0)
  simp (decide := true) only [BmM_gates, EV, EW, CT, ev_o, ev_is, ev_gd, List.length_cons, List.length_nil, Nat.reduceLT, Nat.reduceAdd, Nat.reduceEqDiff, Nat.reduceLeDiff, Int32.reduceLT, Int32.reduceLE, reduceIte, true_and, and_true, true_or, or_true, not_true_eq_false, not_false_eq_true, false_imp_iff, true_imp_iff, implies_true]
  exact lp n 0 (by omega)
