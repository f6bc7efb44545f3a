/-! Marking and listing gates: the given side. Printed by gen_18g.py. -/
def gF (n : Nat) (kd : Nat → Nat) (rt : Nat → Bool) (pins : Nat → List Nat) : Nat → Nat → Prop
  | 0, m => m < n ∧ rt m = true
  | k + 1, m => gF n kd rt pins k m ∨ (gF n kd rt pins k (n - 1 - k) ∧ m ∈ pins (n - 1 - k) ∧ (kd m = 2 ∨ kd m = 3))
theorem gF_in {n : Nat} {kd : Nat → Nat} {rt : Nat → Bool} {pins : Nat → List Nat} {Gd : Nat → Prop} (h1 : ∀ m, m < n → rt m = true → Gd m) (h2 : ∀ g, g < n → Gd g → ∀ x, x ∈ pins g → x < n ∧ ((kd x = 2 ∨ kd x = 3) → Gd x)) : ∀ k m, gF n kd rt pins k m → m < n ∧ Gd m := by
  intro k
  induction k with
  | zero => intro m h; exact ⟨h.1, h1 m h.1 h.2⟩
  | succ k ih =>
    intro m h
    rcases h with h | ⟨a, b, c⟩
    · exact ih m h
    · have ⟨q1, q2⟩ := ih _ a
      have ⟨r1, r2⟩ := h2 _ q1 q2 m b
      exact ⟨r1, r2 c⟩
/-- what is known of the choice at a node -/
def GdC (G : Gr) (ch cp pn : Nat → Int32) (pins : Nat → List Nat) (g : Nat) : Prop := ∃ c, c < 8 ∧ ch g = nI c ∧ pn c = nI (pins g).length ∧ (pins g).length ≤ 4 ∧ Stk (fun i => cp (4 * g + i)) (pins g) ∧ ∀ x, x ∈ pins g → x < G.1
set_option maxHeartbeats 8000000 in
theorem mg_loop2 {w : cx_W} {G : Gr} {kd px py : Nat → Nat} {rt : Nat → Bool} {pins : Nat → List Nat} {ch cp pn : Nat → Int32} (hG : GW w G) (hn : G.1 ≤ 48) (hK : GK G kd px py) (h20 : ∃ x, w 20 = oCo x) (h13 : ∃ x, w 13 = oLi x) (h17 : w 17 = ai 8 pn) (h24 : w 24 = ai 48 ch) (h25 : w 25 = ai 192 cp) (hgd : ∀ k m, gF G.1 kd rt pins k m → m < G.1 ∧ GdC G ch cp pn pins m) :
    ∀ (m : Nat) (w1 : cx_W) (gm : Nat → Int32), m ≤ G.1 → w1 28 = az 48 gm → (∀ k, ¬ k = 28 → w1 k = w k) → BR 48 gm (gF G.1 kd rt pins (G.1 - m)) →
    cx_OK none mCo_markGates 10 0 0 (fun r w2 _ => r = none ∧ (∃ gm, w2 28 = az 48 gm ∧ BR 48 gm (gF G.1 kd rt pins G.1)) ∧ ∀ k, ¬ k = 28 → w2 k = w k) 54 [some (.ref 20), some (.int (nI m - 1))] [] w1 (87, 0, 0) := by
  have h20' := h20
  have h13' := h13
  have hG' := hG
  obtain ⟨x20, h20⟩ := h20
  obtain ⟨g1, g2, g3, g4⟩ := hG
  intro m
  induction m with
  | zero =>
    intro w1 gm hm h28 hk hB
    refine cx_run 60 mCo_markGates_mo ?_
    simp (decide := true) only [BmCo_markGates, nI_0, EV, EW, CT, ev_o, ev_is, ev_gd, List.length_cons, List.length_nil, Nat.reduceLT, Nat.reduceAdd, Nat.reduceEqDiff, Nat.reduceLeDiff, Int32.reduceLT, Int32.reduceLE, reduceIte, true_and, and_true, true_or, or_true, not_true_eq_false, not_false_eq_true, false_imp_iff, true_imp_iff, implies_true]
    rw [Nat.sub_zero] at hB
    exact ⟨⟨gm, h28, hB⟩, hk⟩
  | succ m ih =>
    intro w1 gm hm h28 hk hB
    have k20 := (hk 20 (by decide)).trans h20
    have v1 : vp_in (nI m) 48 := nI_in (by omega) (by decide)
    have hlt : ¬ nI m < 0 := nI_pos (by omega)
    have eu : G.1 - 1 - (G.1 - (m + 1)) = m := by omega
    have es : G.1 - m = (G.1 - (m + 1)) + 1 := by omega
    have nx : ∀ (w2 : cx_W) (gm2 : Nat → Int32), w2 28 = az 48 gm2 → (∀ k, ¬ k = 28 → w2 k = w1 k) → BR 48 gm2 (gF G.1 kd rt pins (G.1 - m)) → cx_OK none mCo_markGates 10 0 0 (fun r w2 _ => r = none ∧ (∃ gm, w2 28 = az 48 gm ∧ BR 48 gm (gF G.1 kd rt pins G.1)) ∧ ∀ k, ¬ k = 28 → w2 k = w k) 54 [some (.ref 20), some (.int (nI m + -1))] [] w2 (87, 0, 0) := by
      intro w2 gm2 a b c
      have := ih w2 gm2 (by omega) a (fun k q => (b k q).trans (hk k q)) c
      rw [Int32.sub_eq_add_neg] at this
      exact this
    refine cx_run 60 mCo_markGates_mo ?_
    rw [nI_pred]
    by_cases q : gF G.1 kd rt pins (G.1 - (m + 1)) m
    · have F : gm m = 1 := (hB m (by omega)).1 q
      have ⟨_, c, c1, c2, c3, c4, c5, c6⟩ := hgd _ m q
      simp (decide := true) only [BmCo_markGates, k20, h28, v1, hlt, F, nI_clamp (n := m) (by omega), EV, EW, CT, ev_o, ev_is, ev_gd, List.length_cons, List.length_nil, Nat.reduceLT, Nat.reduceAdd, Nat.reduceEqDiff, Nat.reduceLeDiff, Int32.reduceLT, Int32.reduceLE, reduceIte, true_and, and_true, true_or, or_true, not_true_eq_false, not_false_eq_true, false_imp_iff, true_imp_iff, implies_true]
      refine cx_cs1 9 0 0 (by decide) (c_Co_markPins (dd := 7) (l := pins m) (P := gF G.1 kd rt pins (G.1 - (m + 1))) ⟨(hk 1 (by decide)).trans g1, (hk 2 (by decide)).trans g2, (hk 3 (by decide)).trans g3, (hk 4 (by decide)).trans g4⟩ hn hK ⟨x20, k20⟩ (h13'.elim fun x h => ⟨x, (hk 13 (by decide)).trans h⟩) ((hk 17 (by decide)).trans h17) ((hk 24 (by decide)).trans h24) ((hk 25 (by decide)).trans h25) h28 (by omega) c1 c2 c3 c4 c5 c6 hB) fun r w2 h2 => ?_
      obtain ⟨rfl, ⟨gm2, a28, aB⟩, ak⟩ := h2
      simp (decide := true) only [BmCo_markGates, EV, EW, CT, ev_o, ev_is, ev_gd, List.length_cons, List.length_nil, Nat.reduceLT, Nat.reduceAdd, Nat.reduceEqDiff, Nat.reduceLeDiff, Int32.reduceLT, Int32.reduceLE, reduceIte, true_and, and_true, true_or, or_true, not_true_eq_false, not_false_eq_true, false_imp_iff, true_imp_iff, implies_true]
      refine nx w2 gm2 a28 ak (aB.congr fun j _ => ?_)
      rw [es, gF, eu]
      exact ⟨fun h => h.elim .inl fun h => .inr ⟨q, h⟩, fun h => h.elim .inl fun h => .inr h.2⟩
    · have F : gm m = 0 := (hB m (by omega)).2 q
      simp (decide := true) only [BmCo_markGates, k20, h28, v1, hlt, F, nI_clamp (n := m) (by omega), EV, EW, CT, ev_o, ev_is, ev_gd, List.length_cons, List.length_nil, Nat.reduceLT, Nat.reduceAdd, Nat.reduceEqDiff, Nat.reduceLeDiff, Int32.reduceLT, Int32.reduceLE, reduceIte, true_and, and_true, true_or, or_true, not_true_eq_false, not_false_eq_true, false_imp_iff, true_imp_iff, implies_true]
      refine nx w1 gm h28 (fun _ _ => rfl) (hB.congr fun j _ => ?_)
      rw [es, gF, eu]
      exact ⟨fun h => .inl h, fun h => h.elim id fun h => absurd h.1 q⟩
set_option maxHeartbeats 8000000 in
theorem mg_loop1 {w : cx_W} {G : Gr} {kd px py : Nat → Nat} {need : Nat → Bool} {us : Nat → Nat} {fn gu pa ndc : Nat → Int32} {Q : cx_Q} (hW : CoW w G kd px py need us fn gu pa ndc) (hQ : ∀ (w1 : cx_W) (gm : Nat → Int32), w1 28 = az 48 gm → (∀ k, ¬ k = 28 → w1 k = w k) → BR 48 gm (fun j => j < G.1 ∧ rtU kd need us j = true) → cx_OK none mCo_markGates 10 0 0 Q 54 [some (.ref 20), some (.int (nI G.1 - 1))] [] w1 (87, 0, 0)) :
    ∀ (m i : Nat) (w1 : cx_W) (gm : Nat → Int32), i + m = 48 → w1 28 = az 48 gm → (∀ k, ¬ k = 28 → w1 k = w k) → BR i gm (fun j => j < G.1 ∧ rtU kd need us j = true) →
    cx_OK none mCo_markGates 10 0 0 Q 2 [some (.ref 20), some (.int (nI i))] [] w1 (87, 0, 0) := by
  obtain ⟨⟨g1, g2, g3, g4⟩, hn48, hK, ⟨x20, h20⟩, ⟨x13, h13⟩, h14, h18, h21, hfn, h22, hgu, hus⟩ := hW
  intro m
  induction m with
  | zero =>
    intro i w1 gm hi h28 hk hB
    have e : i = 48 := by omega
    subst e
    have E : ((48 : Int32) ≤ nI 48) = True := eq_true (by decide)
    have k20 := (hk 20 (by decide)).trans h20
    have k1 := (hk 1 (by decide)).trans g1
    refine cx_run 60 mCo_markGates_mo ?_
    simp (decide := true) only [BmCo_markGates, BSC, k20, k1, E, EV, EW, CT, ev_o, ev_is, ev_gd, List.length_cons, List.length_nil, Nat.reduceLT, Nat.reduceAdd, Nat.reduceEqDiff, Nat.reduceLeDiff, Int32.reduceLT, Int32.reduceLE, reduceIte, true_and, and_true, true_or, or_true, not_true_eq_false, not_false_eq_true, false_imp_iff, true_imp_iff, implies_true]
    exact hQ w1 gm h28 hk hB
  | succ m ih =>
    intro i w1 gm hi h28 hk hB
    have E : ((48 : Int32) ≤ nI i) = False := (lek (a := i) (c := 48) (x := 48) rfl (by omega) (by decide)).trans (eq_false (by omega))
    have k20 := (hk 20 (by decide)).trans h20
    have k1 := (hk 1 (by decide)).trans g1
    have k2 := (hk 2 (by decide)).trans g2
    have k21 := (hk 21 (by decide)).trans h21
    have k22 := (hk 22 (by decide)).trans h22
    have v1 : vp_in (nI i) 48 := nI_in (by omega) (by decide)
    have hlt : (nI i < 0) = False := eq_false (nI_pos (by omega))
    have nx : ∀ x : Int32, ((i < G.1 ∧ rtU kd need us i = true) → x = 1) → (¬ (i < G.1 ∧ rtU kd need us i = true) → x = 0) → cx_OK none mCo_markGates 10 0 0 Q 2 [some (.ref 20), some (.int (nI (i + 1)))] [] (cx_up w1 28 (az 48 (upd gm i x))) (87, 0, 0) := by
      intro x a b
      refine ih (i + 1) _ (upd gm i x) (by omega) (by simp only [cx_up, Nat.reduceEqDiff, reduceIte]) (fun k q => by rw [← hk k q]; simp (disch := omega) only [cx_up, if_neg]) (fun j hj => ?_)
      by_cases e : j = i
      · subst e; rw [pk_us]; exact ⟨a, b⟩
      · rw [pk_un e]; exact hB j (by omega)
    refine cx_run 60 mCo_markGates_mo ?_
    by_cases hiG : i < G.1
    · have EG := leF (a := G.1) (b := i) hiG (by omega)
      have LG := ltT (a := i) (b := G.1) hiG (by omega)
      have ⟨d1, d2, d3, d4⟩ := hK i hiG
      have fnn := hfn i (by omega)
      have gun := hgu i (by omega)
      have usn := hus i
      rcases (show kd i = 0 ∨ kd i = 1 ∨ kd i = 2 ∨ kd i = 3 by omega) with kk | kk | kk | kk
      · have KD : G.2.1 i = 0 := by rw [d1, kk]; rfl
        simp (decide := true) only [KD, EG, LG, BmCo_markGates, BSC, k20, k1, k2, k21, k22, h28, E, v1, hlt, nI_clamp (n := i) (by omega), nI_1, EV, EW, CT, ev_o, ev_is, ev_gd, List.length_cons, List.length_nil, Nat.reduceLT, Nat.reduceAdd, Nat.reduceEqDiff, Nat.reduceLeDiff, Int32.reduceLT, Int32.reduceLE, reduceIte, true_and, and_true, true_or, or_true, not_true_eq_false, not_false_eq_true, false_imp_iff, true_imp_iff, implies_true]
        exact nx 0 (fun h => by have := (rtU_t h.2).1; omega) (fun _ => rfl)
      · have KD : G.2.1 i = 1 := by rw [d1, kk]; rfl
        simp (decide := true) only [KD, EG, LG, BmCo_markGates, BSC, k20, k1, k2, k21, k22, h28, E, v1, hlt, nI_clamp (n := i) (by omega), nI_1, EV, EW, CT, ev_o, ev_is, ev_gd, List.length_cons, List.length_nil, Nat.reduceLT, Nat.reduceAdd, Nat.reduceEqDiff, Nat.reduceLeDiff, Int32.reduceLT, Int32.reduceLE, reduceIte, true_and, and_true, true_or, or_true, not_true_eq_false, not_false_eq_true, false_imp_iff, true_imp_iff, implies_true]
        exact nx 0 (fun h => by have := (rtU_t h.2).1; omega) (fun _ => rfl)
      · have KD : G.2.1 i = 2 := by rw [d1, kk]; rfl
        have hlog : kd i = 2 ∨ kd i = 3 := by omega
        cases hr : rtU kd need us i
        · have ⟨r1, r2⟩ := rtU_f hlog hr
          have F1 : fn i = 0 := fnn.2 (fun (z : need i = true) => by rw [r1] at z; cases z)
          have F2 : (nI (us i) ≤ 1) = True := eq_true (nI_le (b := 1) (by omega) (by decide))
          simp (decide := true) only [KD, EG, LG, F1, F2, gun, BmCo_markGates, BSC, k20, k1, k2, k21, k22, h28, E, v1, hlt, nI_clamp (n := i) (by omega), nI_1, EV, EW, CT, ev_o, ev_is, ev_gd, List.length_cons, List.length_nil, Nat.reduceLT, Nat.reduceAdd, Nat.reduceEqDiff, Nat.reduceLeDiff, Int32.reduceLT, Int32.reduceLE, reduceIte, true_and, and_true, true_or, or_true, not_true_eq_false, not_false_eq_true, false_imp_iff, true_imp_iff, implies_true]
          exact nx 0 (fun h => by have := h.2; rw [hr] at this; cases this) (fun _ => rfl)
        · rcases (rtU_t hr).2 with r1 | ⟨r1, r2⟩
          · have F1 : fn i = 1 := fnn.1 r1
            simp (decide := true) only [KD, EG, LG, F1, BmCo_markGates, BSC, k20, k1, k2, k21, k22, h28, E, v1, hlt, nI_clamp (n := i) (by omega), nI_1, EV, EW, CT, ev_o, ev_is, ev_gd, List.length_cons, List.length_nil, Nat.reduceLT, Nat.reduceAdd, Nat.reduceEqDiff, Nat.reduceLeDiff, Int32.reduceLT, Int32.reduceLE, reduceIte, true_and, and_true, true_or, or_true, not_true_eq_false, not_false_eq_true, false_imp_iff, true_imp_iff, implies_true]
            exact nx 1 (fun _ => rfl) (fun h => absurd ⟨hiG, hr⟩ h)
          · have F1 : fn i = 0 := fnn.2 (fun (z : need i = true) => by rw [r1] at z; cases z)
            have F2 : (nI (us i) ≤ 1) = False := eq_false (Int32.not_le.mpr (nI_lt (a := 1) r2 (by omega)))
            simp (decide := true) only [KD, EG, LG, F1, F2, gun, BmCo_markGates, BSC, k20, k1, k2, k21, k22, h28, E, v1, hlt, nI_clamp (n := i) (by omega), nI_1, EV, EW, CT, ev_o, ev_is, ev_gd, List.length_cons, List.length_nil, Nat.reduceLT, Nat.reduceAdd, Nat.reduceEqDiff, Nat.reduceLeDiff, Int32.reduceLT, Int32.reduceLE, reduceIte, true_and, and_true, true_or, or_true, not_true_eq_false, not_false_eq_true, false_imp_iff, true_imp_iff, implies_true]
            exact nx 1 (fun _ => rfl) (fun h => absurd ⟨hiG, hr⟩ h)
      · have KD : G.2.1 i = 3 := by rw [d1, kk]; rfl
        have hlog : kd i = 2 ∨ kd i = 3 := by omega
        cases hr : rtU kd need us i
        · have ⟨r1, r2⟩ := rtU_f hlog hr
          have F1 : fn i = 0 := fnn.2 (fun (z : need i = true) => by rw [r1] at z; cases z)
          have F2 : (nI (us i) ≤ 1) = True := eq_true (nI_le (b := 1) (by omega) (by decide))
          simp (decide := true) only [KD, EG, LG, F1, F2, gun, BmCo_markGates, BSC, k20, k1, k2, k21, k22, h28, E, v1, hlt, nI_clamp (n := i) (by omega), nI_1, EV, EW, CT, ev_o, ev_is, ev_gd, List.length_cons, List.length_nil, Nat.reduceLT, Nat.reduceAdd, Nat.reduceEqDiff, Nat.reduceLeDiff, Int32.reduceLT, Int32.reduceLE, reduceIte, true_and, and_true, true_or, or_true, not_true_eq_false, not_false_eq_true, false_imp_iff, true_imp_iff, implies_true]
          exact nx 0 (fun h => by have := h.2; rw [hr] at this; cases this) (fun _ => rfl)
        · rcases (rtU_t hr).2 with r1 | ⟨r1, r2⟩
          · have F1 : fn i = 1 := fnn.1 r1
            simp (decide := true) only [KD, EG, LG, F1, BmCo_markGates, BSC, k20, k1, k2, k21, k22, h28, E, v1, hlt, nI_clamp (n := i) (by omega), nI_1, EV, EW, CT, ev_o, ev_is, ev_gd, List.length_cons, List.length_nil, Nat.reduceLT, Nat.reduceAdd, Nat.reduceEqDiff, Nat.reduceLeDiff, Int32.reduceLT, Int32.reduceLE, reduceIte, true_and, and_true, true_or, or_true, not_true_eq_false, not_false_eq_true, false_imp_iff, true_imp_iff, implies_true]
            exact nx 1 (fun _ => rfl) (fun h => absurd ⟨hiG, hr⟩ h)
          · have F1 : fn i = 0 := fnn.2 (fun (z : need i = true) => by rw [r1] at z; cases z)
            have F2 : (nI (us i) ≤ 1) = False := eq_false (Int32.not_le.mpr (nI_lt (a := 1) r2 (by omega)))
            simp (decide := true) only [KD, EG, LG, F1, F2, gun, BmCo_markGates, BSC, k20, k1, k2, k21, k22, h28, E, v1, hlt, nI_clamp (n := i) (by omega), nI_1, EV, EW, CT, ev_o, ev_is, ev_gd, List.length_cons, List.length_nil, Nat.reduceLT, Nat.reduceAdd, Nat.reduceEqDiff, Nat.reduceLeDiff, Int32.reduceLT, Int32.reduceLE, reduceIte, true_and, and_true, true_or, or_true, not_true_eq_false, not_false_eq_true, false_imp_iff, true_imp_iff, implies_true]
            exact nx 1 (fun _ => rfl) (fun h => absurd ⟨hiG, hr⟩ h)
    · have EG := leT (a := G.1) (b := i) (by omega) (by omega)
      have LG := ltF (a := i) (b := G.1) (by omega) (by omega)
      simp (decide := true) only [EG, LG, BmCo_markGates, BSC, k20, k1, k2, k21, k22, h28, E, v1, hlt, nI_clamp (n := i) (by omega), nI_1, EV, EW, CT, ev_o, ev_is, ev_gd, List.length_cons, List.length_nil, Nat.reduceLT, Nat.reduceAdd, Nat.reduceEqDiff, Nat.reduceLeDiff, Int32.reduceLT, Int32.reduceLE, reduceIte, true_and, and_true, true_or, or_true, not_true_eq_false, not_false_eq_true, false_imp_iff, true_imp_iff, implies_true]
      exact nx 0 (fun h => absurd h.1 hiG) (fun _ => rfl)
set_option maxHeartbeats 4000000 in
theorem c_Co_markGates {w : cx_W} {G : Gr} {kd px py : Nat → Nat} {need : Nat → Bool} {us : Nat → Nat} {fn gu pa ndc ch cp pn gm0 : Nat → Int32} {pins : Nat → List Nat} (hW : CoW w G kd px py need us fn gu pa ndc) (h17 : w 17 = ai 8 pn) (h24 : w 24 = ai 48 ch) (h25 : w 25 = ai 192 cp) (h28 : w 28 = az 48 gm0) (hgd : ∀ k m, gF G.1 kd (rtU kd need us) pins k m → m < G.1 ∧ GdC G ch cp pn pins m) :
    cx_MC mCo_markGates 10 0 0 [.ref 20] w 87 (fun r w2 => r = none ∧ (∃ gm, w2 28 = az 48 gm ∧ BR 48 gm (gF G.1 kd (rtU kd need us) pins G.1)) ∧ ∀ k, ¬ k = 28 → w2 k = w k) := by
  refine cx_met 60 mCo_markGates_ok rfl ?_
  show cx_vc 60 none mCo_markGates 10 0 0 _ _ 0 [some (.ref 20), none] [] w (87, 0, 0)
  simp only [BmCo_markGates, EV, EW, CT, ev_o, ev_is, ev_gd, List.length_cons, List.length_nil, Nat.reduceLT, Nat.reduceAdd, Nat.reduceEqDiff, Nat.reduceLeDiff, Int32.reduceLT, Int32.reduceLE, reduceIte, true_and, and_true, true_or, or_true, not_true_eq_false, not_false_eq_true, false_imp_iff, true_imp_iff, implies_true]
  refine mg_loop1 hW (fun w1 gm a b c => ?_) 48 0 w gm0 (by omega) h28 (fun _ _ => rfl) (fun j h => by omega)
  obtain ⟨hG, hn48, hK, h20, h13, _⟩ := hW
  exact mg_loop2 (w := w) hG hn48 hK h20 h13 h17 h24 h25 hgd G.1 w1 gm (Nat.le_refl _) a b (by rw [Nat.sub_self]; exact c)
theorem rt_cnt_up {gt : Nat → Prop} {g i : Nat} (h : gt g) (hi : g < i) : rt_cnt gt g < rt_cnt gt i := by
  induction i with
  | zero => omega
  | succ i ih =>
    rw [rt_cnt]
    by_cases e : g = i
    · subst e; rw [if_pos h]; omega
    · have := ih (by omega); omega
/-- the gates in their order -/
def GtR (gs : Nat → Int32) (gt : Nat → Prop) (n : Nat) : Prop := ∀ g, g < n → gt g → gs (rt_cnt gt g) = nI g
set_option maxHeartbeats 8000000 in
theorem lg_loop {w : cx_W} {G : Gr} {gt : Nat → Prop} {gm : Nat → Int32} {dd : Nat} (hG : GW w G) (hn : G.1 ≤ 48) (h28 : w 28 = az 48 gm) (hB : BR 48 gm gt) :
    ∀ (m i : Nat) (w1 : cx_W) (gs : Nat → Int32), i + m = G.1 → w1 20 = oCo (nI (rt_cnt gt i)) → w1 29 = ai 48 gs → (∀ k, ¬ k = 20 ∧ ¬ k = 29 → w1 k = w k) → GtR gs gt i →
    cx_OK none mCo_listGates (dd + 1) 0 0 (fun r w2 _ => r = none ∧ w2 20 = oCo (nI (rt_cnt gt G.1)) ∧ (∃ gs, w2 29 = ai 48 gs ∧ GtR gs gt G.1) ∧ ∀ k, ¬ k = 20 ∧ ¬ k = 29 → w2 k = w k) 7 [some (.ref 20), some (.int (nI i))] [] w1 (87, 0, 0) := by
  obtain ⟨g1, g2, g3, g4⟩ := hG
  intro m
  induction m with
  | zero =>
    intro i w1 gs hi h20 h29 hk hR
    have e : i = G.1 := by omega
    subst e
    have E := leT (a := G.1) (b := G.1) (by omega) (by omega)
    have k1 := (hk 1 (by decide)).trans g1
    refine cx_run 60 mCo_listGates_mo ?_
    simp (decide := true) only [BmCo_listGates, BSC, h20, k1, E, EV, EW, CT, ev_o, ev_is, ev_gd, List.length_cons, List.length_nil, Nat.reduceLT, Nat.reduceAdd, Nat.reduceEqDiff, Nat.reduceLeDiff, Int32.reduceLT, Int32.reduceLE, reduceIte, true_and, and_true, true_or, or_true, not_true_eq_false, not_false_eq_true, false_imp_iff, true_imp_iff, implies_true]
    exact ⟨⟨gs, h29, hR⟩, hk⟩
  | succ m ih =>
    intro i w1 gs hi h20 h29 hk hR
    have E := leF (a := G.1) (b := i) (by omega) (by omega)
    have k1 := (hk 1 (by decide)).trans g1
    have k28 := (hk 28 (by decide)).trans h28
    have v1 : vp_in (nI i) 48 := nI_in (by omega) (by decide)
    have hle := rt_cnt_le gt i
    have v2 : vp_in (nI (rt_cnt gt i)) 48 := nI_in (by omega) (by decide)
    refine cx_run 60 mCo_listGates_mo ?_
    by_cases q : gt i
    · have F : gm i = 1 := (hB i (by omega)).1 q
      have ec : rt_cnt gt (i + 1) = rt_cnt gt i + 1 := by rw [rt_cnt, if_pos q]
      simp (decide := true) only [BmCo_listGates, BSC, h20, h29, k1, k28, E, v1, v2, F, nI_clamp (n := i) (by omega), nI_clamp (n := rt_cnt gt i) (by omega), nI_1, EV, EW, CT, ev_o, ev_is, ev_gd, List.length_cons, List.length_nil, Nat.reduceLT, Nat.reduceAdd, Nat.reduceEqDiff, Nat.reduceLeDiff, Int32.reduceLT, Int32.reduceLE, reduceIte, true_and, and_true, true_or, or_true, not_true_eq_false, not_false_eq_true, false_imp_iff, true_imp_iff, implies_true]
      refine ih (i + 1) _ (upd gs (rt_cnt gt i) (nI i)) (by omega) (by rw [ec]; simp only [cx_up, Nat.reduceEqDiff, reduceIte]) (by simp only [cx_up, Nat.reduceEqDiff, reduceIte]) (fun k z => by rw [← hk k z]; simp (disch := omega) only [cx_up, if_neg]) (fun g hg hgt => ?_)
      by_cases e : g = i
      · subst e; exact pk_us
      · have := rt_cnt_up hgt (show g < i by omega)
        rw [pk_un (by omega)]; exact hR g (by omega) hgt
    · have F : gm i = 0 := (hB i (by omega)).2 q
      have ec : rt_cnt gt (i + 1) = rt_cnt gt i := by rw [rt_cnt, if_neg q]; rfl
      simp (decide := true) only [BmCo_listGates, BSC, h20, k1, k28, E, v1, F, nI_clamp (n := i) (by omega), nI_1, EV, EW, CT, ev_o, ev_is, ev_gd, List.length_cons, List.length_nil, Nat.reduceLT, Nat.reduceAdd, Nat.reduceEqDiff, Nat.reduceLeDiff, Int32.reduceLT, Int32.reduceLE, reduceIte, true_and, and_true, true_or, or_true, not_true_eq_false, not_false_eq_true, false_imp_iff, true_imp_iff, implies_true]
      refine ih (i + 1) w1 gs (by omega) (by rw [ec]; exact h20) h29 hk (fun g hg hgt => ?_)
      by_cases e : g = i
      · rw [e] at hgt; exact absurd hgt q
      · exact hR g (by omega) hgt
set_option maxHeartbeats 4000000 in
theorem c_Co_listGates {w : cx_W} {G : Gr} {gt : Nat → Prop} {gm gs : Nat → Int32} {x : Int32} {dd : Nat} (hG : GW w G) (hn : G.1 ≤ 48) (h20 : w 20 = oCo x) (h28 : w 28 = az 48 gm) (hB : BR 48 gm gt) (h29 : w 29 = ai 48 gs) :
    cx_MC mCo_listGates (dd + 1) 0 0 [.ref 20] w 87 (fun r w2 => r = none ∧ w2 20 = oCo (nI (rt_cnt gt G.1)) ∧ (∃ gs, w2 29 = ai 48 gs ∧ GtR gs gt G.1) ∧ ∀ k, ¬ k = 20 ∧ ¬ k = 29 → w2 k = w k) := by
  refine cx_met 60 mCo_listGates_ok rfl ?_
  show cx_vc 60 none mCo_listGates (dd + 1) 0 0 _ _ 0 [some (.ref 20), none] [] w (87, 0, 0)
  simp (decide := true) only [BmCo_listGates, h20, EV, EW, CT, ev_o, ev_is, ev_gd, List.length_cons, List.length_nil, Nat.reduceLT, Nat.reduceAdd, Nat.reduceEqDiff, Nat.reduceLeDiff, Int32.reduceLT, Int32.reduceLE, reduceIte, true_and, and_true, true_or, or_true, not_true_eq_false, not_false_eq_true, false_imp_iff, true_imp_iff, implies_true]
  exact lg_loop (w := w) hG hn h28 hB G.1 0 _ gs (by omega) (by simp only [cx_up, Nat.reduceEqDiff, reduceIte]; rfl) (by simp only [cx_up, Nat.reduceEqDiff, reduceIte]; exact h29) (fun k z => by simp (disch := omega) only [cx_up, if_neg]) (fun g h => by omega)
