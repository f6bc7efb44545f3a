/-! Laying and choosing: the reference. Own work. -/
set_option maxHeartbeats 8000000 in
theorem c_M_lay {w : cx_W} {H : Gr} {kd px py : Nat → Nat} {rt : Nat → Bool} {cost : Nat → Nat} {rr pa cs op lp ar : Nat → Int32} {c sw q A n : Nat} {x0 x1 x2 x3 x4 x5 x6 x7 x8 x9 : Int32} {Lv : Nat → Prop} (hW : MlW w H kd px py rt rr pa) (h45 : w 45 = oM x0 x1 x2 x3 x4 x5 x6 x7 x8 x9) (h62 : w 62 = ai 8 ar) (h67 : w 67 = ai 48 cs) (h71 : w 71 = ai 8 op) (h72 : w 72 = ai 4 lp) (hc : c < 8) (hpa : pa c = nI q) (har : ar c = nI A) (hq : q ∈ pats) (hsw : sw < 8) (hcs : ∀ x, x < n → Lv x → nr kd rt x → cs x = nI (cost x)) (hl : ∀ k, k < H.1 → Lv k → (kd k = 2 → Lv (px k)) ∧ (kd k = 3 → Lv (px k) ∧ Lv (py k))) (hln : Lv n) (hwf : wf kd px py H.1) (hn : n < H.1) :
    cx_MC mM_lay 9 0 0 [.ref 45, .int (nI n), .int (nI c), .int (nI sw)] w 87 (fun r w2 => (∃ op2 lp2, w2 71 = ai 8 op2 ∧ w2 72 = ai 4 lp2 ∧ ((∃ pins, layN kd px py rt sw 8 q true [n] [] (nandsP q) = some pins ∧ Stk lp2 pins ∧ w2 45 = oM x0 x1 x2 x3 x4 x5 x6 (nI pins.length) x8 x9 ∧ r = some (.int (nI (A + sumL (pc kd rt cost) pins)))) ∨ (layN kd px py rt sw 8 q true [n] [] (nandsP q) = none ∧ (∃ x7, w2 45 = oM x0 x1 x2 x3 x4 x5 x6 x7 x8 x9) ∧ r = some (.int (-1))))) ∧ ∀ k, ¬ k = 45 ∧ ¬ k = 71 ∧ ¬ k = 72 → w2 k = w k) := by
  have hW' := hW
  obtain ⟨h56, h57, h58, hn48, hK, h61, h65, hrr⟩ := hW
  have vc : vp_in (nI c) 8 := nI_in hc (by decide)
  have ⟨p1, p2, p3⟩ := pats_pt hq
  have ⟨_, p4, p5, _, _, _⟩ := pat_num hq
  have pl := pats_lt hq
  have ⟨n1, n2⟩ := pats_ne hq
  have et : (nI n).toNatClampNeg = n := nI_clamp (by omega)
  have u0 : vp_in 0 8 := by unfold vp_in; decide
  refine cx_met 60 mM_lay_ok rfl ?_
  show cx_vc 60 none mM_lay 9 0 0 _ _ 0 [some (.ref 45), some (.int (nI n)), some (.int (nI c)), some (.int (nI sw)), none, none, none, none, none, none] [] w (87, 0, 0)
  simp (decide := true) only [BmM_lay, h45, h62, vc, har, nI_clamp (n := c) (by omega), EV, EW, CT, ev_o, ev_is, ev_gd, List.length_cons, List.length_nil, Nat.reduceLT, Nat.reduceAdd, Nat.reduceEqDiff, Nat.reduceLeDiff, Int32.reduceLT, Int32.reduceLE, reduceIte, true_and, and_true, true_or, or_true, not_true_eq_false, not_false_eq_true, false_imp_iff, true_imp_iff, implies_true]
  refine cx_cs1 8 0 0 (by decide) (c_M_nands (dd := 8) h45 h61 hc hpa hq) fun r w2 h2 => ?_
  obtain ⟨rfl, rfl⟩ := h2
  simp (decide := true) only [BmM_lay, h45, h61, h71, vc, u0, hpa, nI_clamp (n := c) (by omega), Int32.reduceToNatClampNeg, EV, EW, CT, ev_o, ev_is, ev_gd, List.length_cons, List.length_nil, Nat.reduceLT, Nat.reduceAdd, Nat.reduceEqDiff, Nat.reduceLeDiff, Int32.reduceLT, Int32.reduceLE, reduceIte, true_and, and_true, true_or, or_true, not_true_eq_false, not_false_eq_true, false_imp_iff, true_imp_iff, implies_true]
  refine mlay_loop (w := w2) (A := A) (q := q) (x0 := x0) (x1 := x1) (x2 := x2) (x3 := x3) (x4 := x4) (x5 := x5) (x6 := x6) (x8 := x8) (x9 := x9) (cost := cost) hW' h67 hc hpa pl hsw (fun x hx hlx hr hlt => hcs x (by rw [et] at hlt; exact hlt) hlx hr) hl hwf (by rw [et]; exact hn) 8 q true [n] [] (nandsP q) _ (upd op 0 (nI n)) lp _ _ (by omega) (fun _ => rfl) (fun z => by cases z) (fun _ => ⟨by rw [et], n2⟩) (fun z => by cases z) (Nat.le_refl _) (fun x hx => by rw [List.mem_singleton.mp hx]; exact hln) p1 (by simp) ⟨pk_us, trivial⟩ trivial (by simp only [List.length_nil]; omega) (by omega) p5 (by simp only [cx_up, Nat.reduceEqDiff, reduceIte]) (by simp only [cx_up, Nat.reduceEqDiff, reduceIte]; exact h72) (by simp only [cx_up, Nat.reduceEqDiff, reduceIte]; rfl) (fun k z => by simp (disch := omega) only [cx_up, if_neg])
    (fun pins hp w3 op2 lp2 a b c d e => ⟨⟨op2, lp2, a, b, .inl ⟨pins, hp, e, c, rfl⟩⟩, d⟩) (fun hp w3 op2 lp2 x7 a b c d => ⟨⟨op2, lp2, a, b, .inr ⟨hp, ⟨x7, c⟩, rfl⟩⟩, d⟩)
/-- the reference's rows at a node -/
def ChM (n : Nat) (cs ch sp : Nat → Int32) (st : ChS) : Prop := cs n = nI st.1 ∧ ∀ c sw pins, st.2 = some (c, sw, pins) → ch n = nI c ∧ sp n = nI sw
def CellsM (cc : Nat) (pa ar : Nat → Int32) (p A : Nat → Nat) : Prop := ∀ c, c < cc → p c ∈ pats ∧ pa c = nI (p c) ∧ ar c = nI (A c) ∧ A c ≤ 1000
theorem MlW.of {w w1 : cx_W} {H : Gr} {kd px py : Nat → Nat} {rt : Nat → Bool} {rr pa : Nat → Int32} (h : MlW w H kd px py rt rr pa) (hk : ∀ k, (k = 56 ∨ k = 57 ∨ k = 58 ∨ k = 61 ∨ k = 65) → w1 k = w k) : MlW w1 H kd px py rt rr pa := by
  obtain ⟨h56, h57, h58, hn48, hK, h61, h65, hrr⟩ := h
  exact ⟨(hk 56 (by omega)).trans h56, (hk 57 (by omega)).trans h57, (hk 58 (by omega)).trans h58, hn48, hK, (hk 61 (by omega)).trans h61, (hk 65 (by omega)).trans h65, hrr⟩
/-- rows that choosing leaves alone -/
def frC (k : Nat) : Prop := ¬ k = 45 ∧ ¬ k = 67 ∧ ¬ k = 68 ∧ ¬ k = 69 ∧ ¬ k = 71 ∧ ¬ k = 72
set_option maxHeartbeats 8000000 in
theorem mca_in {w : cx_W} {H : Gr} {kd px py : Nat → Nat} {rt : Nat → Bool} {cost p A : Nat → Nat} {rr pa ar cs0 ch0 sp0 : Nat → Int32} {cc c n : Nat} {st0 : ChS} {x0 x1 x2 x3 x4 x6 x8 x9 : Int32} {Lv : Nat → Prop} {Q : cx_Q} (hW : MlW w H kd px py rt rr pa) (h62 : w 62 = ai 8 ar) (hcc : cc ≤ 8) (hC : CellsM cc pa ar p A) (hc : c < cc) (hn : n < H.1) (hP : PinsC kd px py rt p cc n cost cs0) (hst0 : st0.1 ≤ 1000000) (hcs : ∀ x, x < n → Lv x → nr kd rt x → cs0 x = nI (cost x)) (hl : ∀ k, k < H.1 → Lv k → (kd k = 2 → Lv (px k)) ∧ (kd k = 3 → Lv (px k) ∧ Lv (py k))) (hln : Lv n) (hwf : wf kd px py H.1)
    (hQ : ∀ (w1 : cx_W) (cs ch sp lp op : Nat → Int32) (x7 : Int32) (l3 l4 l5 : Option Value), w1 45 = oM x0 x1 x2 x3 x4 (nI cc) x6 x7 x8 x9 → w1 67 = ai 48 cs → w1 68 = ai 48 ch → w1 69 = ai 48 sp → w1 71 = ai 8 op → w1 72 = ai 4 lp → (∀ k, frC k → w1 k = w k) → (∀ j, ¬ j = n → cs j = cs0 j ∧ ch j = ch0 j ∧ sp j = sp0 j) → ChM n cs ch sp (chW (layC kd px py rt p n) (valC kd rt A cost) c (2 ^ nandsP (p c)) st0) →
      cx_OK none mM_choose 10 0 0 Q 10 [some (.ref 45), some (.int (nI n)), some (.int (nI (c + 1))), l3, l4, l5] [] w1 (87, 0, 0)) :
    ∀ (m sw : Nat) (w1 : cx_W) (cs ch sp lp op : Nat → Int32) (x7 : Int32) (l5 : Option Value), sw + m = 2 ^ nandsP (p c) → w1 45 = oM x0 x1 x2 x3 x4 (nI cc) x6 x7 x8 x9 → w1 67 = ai 48 cs → w1 68 = ai 48 ch → w1 69 = ai 48 sp → w1 71 = ai 8 op → w1 72 = ai 4 lp → (∀ k, frC k → w1 k = w k) → (∀ j, ¬ j = n → cs j = cs0 j ∧ ch j = ch0 j ∧ sp j = sp0 j) → ChM n cs ch sp (chW (layC kd px py rt p n) (valC kd rt A cost) c sw st0) →
      cx_OK none mM_choose 10 0 0 Q 29 [some (.ref 45), some (.int (nI n)), some (.int (nI c)), some (.int (nI (2 ^ nandsP (p c)))), some (.int (nI sw)), l5] [] w1 (87, 0, 0) := by
  have hW' := hW
  obtain ⟨h56, h57, h58, hn48, hK, h61, h65, hrr⟩ := hW
  have ⟨c1, c2, c3, c4⟩ := hC c hc
  have ⟨_, p4, p5, _, _, _⟩ := pat_num c1
  have w8 : 2 ^ nandsP (p c) ≤ 2 ^ 3 := Nat.pow_le_pow_right (by decide) p5
  have vn : vp_in (nI n) 48 := nI_in (by omega) (by decide)
  intro m
  induction m with
  | zero =>
    intro sw w1 cs ch sp lp op x7 l5 hs h45 h67 h68 h69 h71 h72 hk hj hR
    have e : sw = 2 ^ nandsP (p c) := by omega
    subst e
    have E := leT (a := 2 ^ nandsP (p c)) (b := 2 ^ nandsP (p c)) (by omega) (by omega)
    refine cx_run 60 mM_choose_mo ?_
    simp (decide := true) only [BmM_choose, E, nI_1, EV, EW, CT, ev_o, ev_is, ev_gd, List.length_cons, List.length_nil, Nat.reduceLT, Nat.reduceAdd, Nat.reduceEqDiff, Nat.reduceLeDiff, Int32.reduceLT, Int32.reduceLE, reduceIte, true_and, and_true, true_or, or_true, not_true_eq_false, not_false_eq_true, false_imp_iff, true_imp_iff, implies_true]
    exact hQ w1 cs ch sp lp op x7 _ _ _ h45 h67 h68 h69 h71 h72 hk hj hR
  | succ m ih =>
    intro sw w1 cs ch sp lp op x7 l5 hs h45 h67 h68 h69 h71 h72 hk hj hR
    have E := leF (a := 2 ^ nandsP (p c)) (b := sw) (by omega) (by omega)
    have hW1 := hW'.of (w1 := w1) fun k q => hk k (by unfold frC; omega)
    refine cx_run 60 mM_choose_mo ?_
    simp (decide := true) only [BmM_choose, h45, E, EV, EW, CT, ev_o, ev_is, ev_gd, List.length_cons, List.length_nil, Nat.reduceLT, Nat.reduceAdd, Nat.reduceEqDiff, Nat.reduceLeDiff, Int32.reduceLT, Int32.reduceLE, reduceIte, true_and, and_true, true_or, or_true, not_true_eq_false, not_false_eq_true, false_imp_iff, true_imp_iff, implies_true]
    refine cx_cs1 9 0 0 (by decide) (c_M_lay (sw := sw) (q := p c) (A := A c) (cost := cost) (Lv := Lv) hW1 h45 ((hk 62 (by unfold frC; decide)).trans h62) h67 h71 h72 (by omega) c2 c3 c1 (by omega) (fun x hx hlx hr => by rw [(hj x (by omega)).1]; exact hcs x hx hlx hr) hl hln hwf hn) fun r w2 h2 => ?_
    obtain ⟨⟨op2, lp2, a71, a72, hr⟩, ak⟩ := h2
    have k67 := (ak 67 (by decide)).trans h67
    have k68 := (ak 68 (by decide)).trans h68
    have k69 := (ak 69 (by decide)).trans h69
    have fr : ∀ k, frC k → w2 k = w k := fun k q => by
      have q' := q
      unfold frC at q
      exact (ak k (by omega)).trans (hk k q')
    rcases hr with ⟨pins, l1, l2, l3, rfl⟩ | ⟨l1, ⟨x7', l3⟩, rfl⟩
    · have hval : valC kd rt A cost c pins ≤ 193000 := val_le hP hc c4 c1 l1
      have hst : (chW (layC kd px py rt p n) (valC kd rt A cost) c sw st0).1 ≤ st0.1 := chW_le sw
      have hcn := hR.1
      have P0 : (nI (A c + sumL (pc kd rt cost) pins) < 0) = False := eq_false (nI_pos (show valC kd rt A cost c pins < 2 ^ 31 by omega))
      have ec := ch1_s (val := valC kd rt A cost) (st := chW (layC kd px py rt p n) (valC kd rt A cost) c sw st0) (show layC kd px py rt p n c sw = some pins from l1)
      by_cases q : valC kd rt A cost c pins < (chW (layC kd px py rt p n) (valC kd rt A cost) c sw st0).1
      · have F : (nI (chW (layC kd px py rt p n) (valC kd rt A cost) c sw st0).1 ≤ nI (A c + sumL (pc kd rt cost) pins)) = False := leF q (by omega)
        rw [if_pos q] at ec
        simp (decide := true) only [BmM_choose, l3, k67, k68, k69, vn, hcn, P0, F, nI_clamp (n := n) (by omega), nI_1, EV, EW, CT, ev_o, ev_is, ev_gd, List.length_cons, List.length_nil, Nat.reduceLT, Nat.reduceAdd, Nat.reduceEqDiff, Nat.reduceLeDiff, Int32.reduceLT, Int32.reduceLE, reduceIte, true_and, and_true, true_or, or_true, not_true_eq_false, not_false_eq_true, false_imp_iff, true_imp_iff, implies_true]
        refine ih (sw + 1) _ (upd cs n (nI (A c + sumL (pc kd rt cost) pins))) (upd ch n (nI c)) (upd sp n (nI sw)) lp2 op2 _ _ (by omega) (by simp only [cx_up, Nat.reduceEqDiff, reduceIte]; exact l3) (by simp only [cx_up, Nat.reduceEqDiff, reduceIte]) (by simp only [cx_up, Nat.reduceEqDiff, reduceIte]) (by simp only [cx_up, Nat.reduceEqDiff, reduceIte]) (by simp only [cx_up, Nat.reduceEqDiff, reduceIte]; exact a71) (by simp only [cx_up, Nat.reduceEqDiff, reduceIte]; exact a72) (fun k z => by rw [← fr k z]; unfold frC at z; simp (disch := omega) only [cx_up, if_neg]) (fun j z => ⟨by rw [pk_un z]; exact (hj j z).1, by rw [pk_un z]; exact (hj j z).2.1, by rw [pk_un z]; exact (hj j z).2.2⟩) ?_
        show ChM n _ _ _ (ch1 _ _ c sw _)
        rw [ec]
        refine ⟨pk_us, fun c' sw' pins' h => ?_⟩
        injection h with h
        injection h with h1 h
        injection h with h2 h3
        subst h1; subst h2
        exact ⟨pk_us, pk_us⟩
      · have F : (nI (chW (layC kd px py rt p n) (valC kd rt A cost) c sw st0).1 ≤ nI (A c + sumL (pc kd rt cost) pins)) = True := leT (show (chW (layC kd px py rt p n) (valC kd rt A cost) c sw st0).1 ≤ valC kd rt A cost c pins by omega) (show valC kd rt A cost c pins < 2 ^ 31 by omega)
        rw [if_neg q] at ec
        simp (decide := true) only [BmM_choose, l3, k67, vn, hcn, P0, F, nI_clamp (n := n) (by omega), nI_1, EV, EW, CT, ev_o, ev_is, ev_gd, List.length_cons, List.length_nil, Nat.reduceLT, Nat.reduceAdd, Nat.reduceEqDiff, Nat.reduceLeDiff, Int32.reduceLT, Int32.reduceLE, reduceIte, true_and, and_true, true_or, or_true, not_true_eq_false, not_false_eq_true, false_imp_iff, true_imp_iff, implies_true]
        refine ih (sw + 1) w2 cs ch sp lp2 op2 _ _ (by omega) l3 k67 k68 k69 a71 a72 fr hj ?_
        show ChM n _ _ _ (ch1 _ _ c sw _)
        rw [ec]; exact hR
    · simp (decide := true) only [BmM_choose, nI_1, EV, EW, CT, ev_o, ev_is, ev_gd, List.length_cons, List.length_nil, Nat.reduceLT, Nat.reduceAdd, Nat.reduceEqDiff, Nat.reduceLeDiff, Int32.reduceLT, Int32.reduceLE, reduceIte, true_and, and_true, true_or, or_true, not_true_eq_false, not_false_eq_true, false_imp_iff, true_imp_iff, implies_true]
      refine ih (sw + 1) w2 cs ch sp lp2 op2 _ _ (by omega) l3 k67 k68 k69 a71 a72 fr hj ?_
      show ChM n _ _ _ (ch1 _ _ c sw _)
      rw [ch1_n (show layC kd px py rt p n c sw = none from l1)]; exact hR
set_option maxHeartbeats 8000000 in
theorem mca_out {w : cx_W} {H : Gr} {kd px py : Nat → Nat} {rt : Nat → Bool} {cost p A : Nat → Nat} {rr pa ar cs0 ch0 sp0 : Nat → Int32} {cc n : Nat} {x0 x1 x2 x3 x4 x6 x8 x9 : Int32} {Lv : Nat → Prop} (hW : MlW w H kd px py rt rr pa) (h62 : w 62 = ai 8 ar) (hcc : cc ≤ 8) (hC : CellsM cc pa ar p A) (hn : n < H.1) (hP : PinsC kd px py rt p cc n cost cs0) (hcs : ∀ x, x < n → Lv x → nr kd rt x → cs0 x = nI (cost x)) (hl : ∀ k, k < H.1 → Lv k → (kd k = 2 → Lv (px k)) ∧ (kd k = 3 → Lv (px k) ∧ Lv (py k))) (hln : Lv n) (hwf : wf kd px py H.1) :
    ∀ (m c : Nat) (w1 : cx_W) (cs ch sp lp op : Nat → Int32) (x7 : Int32) (l3 l4 l5 : Option Value), c + m = cc → w1 45 = oM x0 x1 x2 x3 x4 (nI cc) x6 x7 x8 x9 → w1 67 = ai 48 cs → w1 68 = ai 48 ch → w1 69 = ai 48 sp → w1 71 = ai 8 op → w1 72 = ai 4 lp → (∀ k, frC k → w1 k = w k) → (∀ j, ¬ j = n → cs j = cs0 j ∧ ch j = ch0 j ∧ sp j = sp0 j) → ChM n cs ch sp (chC (layC kd px py rt p n) (valC kd rt A cost) (fun c => 2 ^ nandsP (p c)) c (1000000, none)) →
      cx_OK none mM_choose 10 0 0 (fun r w2 _ => r = none ∧ (∃ cs ch sp lp op x7, w2 45 = oM x0 x1 x2 x3 x4 (nI cc) x6 x7 x8 x9 ∧ w2 67 = ai 48 cs ∧ w2 68 = ai 48 ch ∧ w2 69 = ai 48 sp ∧ w2 71 = ai 8 op ∧ w2 72 = ai 4 lp ∧ (∀ j, ¬ j = n → cs j = cs0 j ∧ ch j = ch0 j ∧ sp j = sp0 j) ∧ ChM n cs ch sp (bestC kd px py rt p A cc cost 1000000 n)) ∧ ∀ k, frC k → w2 k = w k) 10 [some (.ref 45), some (.int (nI n)), some (.int (nI c)), l3, l4, l5] [] w1 (87, 0, 0) := by
  have hW' := hW
  obtain ⟨h56, h57, h58, hn48, hK, h61, h65, hrr⟩ := hW
  intro m
  induction m with
  | zero =>
    intro c w1 cs ch sp lp op x7 l3 l4 l5 hs h45 h67 h68 h69 h71 h72 hk hj hR
    have e : c = cc := by omega
    subst e
    have E := leT (a := c) (b := c) (by omega) (by omega)
    refine cx_run 60 mM_choose_mo ?_
    simp (decide := true) only [BmM_choose, h45, E, EV, EW, CT, ev_o, ev_is, ev_gd, List.length_cons, List.length_nil, Nat.reduceLT, Nat.reduceAdd, Nat.reduceEqDiff, Nat.reduceLeDiff, Int32.reduceLT, Int32.reduceLE, reduceIte, true_and, and_true, true_or, or_true, not_true_eq_false, not_false_eq_true, false_imp_iff, true_imp_iff, implies_true]
    refine ⟨⟨cs, ch, sp, lp, op, x7, ?_, h67, h68, h69, h71, h72, hj, hR⟩, hk⟩
    first | exact h45 | rfl
  | succ m ih =>
    intro c w1 cs ch sp lp op x7 l3 l4 l5 hs h45 h67 h68 h69 h71 h72 hk hj hR
    have E := leF (a := cc) (b := c) (by omega) (by omega)
    have ⟨c1, c2, c3, c4⟩ := hC c (by omega)
    have ⟨_, p4, p5, _, _, _⟩ := pat_num c1
    have w8 : 2 ^ nandsP (p c) ≤ 2 ^ 3 := Nat.pow_le_pow_right (by decide) p5
    have es : (1 : Int32) <<< (nI (nandsP (p c)) &&& 31) = nI (2 ^ nandsP (p c)) := by
      have := shlN (a := 1) (k := nandsP (p c)) (by omega) (by omega)
      rw [Nat.one_mul] at this
      exact this
    have hle : ∀ c, (chC (layC kd px py rt p n) (valC kd rt A cost) (fun c => 2 ^ nandsP (p c)) c (1000000, none)).1 ≤ 1000000 := by
      intro c
      induction c with
      | zero => exact Nat.le_refl _
      | succ c ih => exact Nat.le_trans (chW_le _) ih
    refine cx_run 60 mM_choose_mo ?_
    simp (decide := true) only [BmM_choose, h45, E, EV, EW, CT, ev_o, ev_is, ev_gd, List.length_cons, List.length_nil, Nat.reduceLT, Nat.reduceAdd, Nat.reduceEqDiff, Nat.reduceLeDiff, Int32.reduceLT, Int32.reduceLE, reduceIte, true_and, and_true, true_or, or_true, not_true_eq_false, not_false_eq_true, false_imp_iff, true_imp_iff, implies_true]
    refine cx_cs1 9 0 0 (by decide) (c_M_nands (dd := 9) h45 ((hk 61 (by unfold frC; decide)).trans h61) (by omega) c2 c1) fun r w2 h2 => ?_
    obtain ⟨rfl, rfl⟩ := h2
    simp (decide := true) only [BmM_choose, es, EV, EW, CT, ev_o, ev_is, ev_gd, List.length_cons, List.length_nil, Nat.reduceLT, Nat.reduceAdd, Nat.reduceEqDiff, Nat.reduceLeDiff, Int32.reduceLT, Int32.reduceLE, reduceIte, true_and, and_true, true_or, or_true, not_true_eq_false, not_false_eq_true, false_imp_iff, true_imp_iff, implies_true]
    exact mca_in (x0 := x0) (x1 := x1) (x2 := x2) (x3 := x3) (x4 := x4) (x6 := x6) (x8 := x8) (x9 := x9) hW' h62 hcc hC (by omega) hn hP (hle c) hcs hl hln hwf (fun w3 cs2 ch2 sp2 lp2 op2 y7 l3 l4 l5 a b c d e f g h i => ih _ w3 cs2 ch2 sp2 lp2 op2 y7 l3 l4 l5 (by omega) a b c d e f g h i) (2 ^ nandsP (p c)) 0 w2 cs ch sp lp op x7 _ (by omega) h45 h67 h68 h69 h71 h72 hk hj hR
set_option maxHeartbeats 8000000 in
theorem c_M_choose {w : cx_W} {H : Gr} {kd px py : Nat → Nat} {rt : Nat → Bool} {cost p A : Nat → Nat} {rr pa ar cs0 ch0 sp0 lp op : Nat → Int32} {cc n : Nat} {x0 x1 x2 x3 x4 x6 x7 x8 x9 : Int32} {Lv : Nat → Prop} (hW : MlW w H kd px py rt rr pa) (h45 : w 45 = oM x0 x1 x2 x3 x4 (nI cc) x6 x7 x8 x9) (h62 : w 62 = ai 8 ar) (h67 : w 67 = ai 48 cs0) (h68 : w 68 = ai 48 ch0) (h69 : w 69 = ai 48 sp0) (h71 : w 71 = ai 8 op) (h72 : w 72 = ai 4 lp) (hcc : cc ≤ 8) (hC : CellsM cc pa ar p A) (hn : n < H.1) (hP : PinsC kd px py rt p cc n cost cs0) (hcs : ∀ x, x < n → Lv x → nr kd rt x → cs0 x = nI (cost x)) (hl : ∀ k, k < H.1 → Lv k → (kd k = 2 → Lv (px k)) ∧ (kd k = 3 → Lv (px k) ∧ Lv (py k))) (hln : Lv n) (hwf : wf kd px py H.1) :
    cx_MC mM_choose 10 0 0 [.ref 45, .int (nI n)] w 87 (fun r w2 => r = none ∧ (∃ cs ch sp lp op x7, w2 45 = oM x0 x1 x2 x3 x4 (nI cc) x6 x7 x8 x9 ∧ w2 67 = ai 48 cs ∧ w2 68 = ai 48 ch ∧ w2 69 = ai 48 sp ∧ w2 71 = ai 8 op ∧ w2 72 = ai 4 lp ∧ (∀ j, ¬ j = n → cs j = cs0 j ∧ ch j = ch0 j ∧ sp j = sp0 j) ∧ ChM n cs ch sp (bestC kd px py rt p A cc cost 1000000 n)) ∧ ∀ k, frC k → w2 k = w k) := by
  have hW' := hW
  obtain ⟨h56, h57, h58, hn48, hK, h61, h65, hrr⟩ := hW
  have vn : vp_in (nI n) 48 := nI_in (by omega) (by decide)
  refine cx_met 60 mM_choose_ok rfl ?_
  show cx_vc 60 none mM_choose 10 0 0 _ _ 0 [some (.ref 45), some (.int (nI n)), none, none, none, none] [] w (87, 0, 0)
  simp (decide := true) only [BmM_choose, h45, h67, vn, nI_clamp (n := n) (by omega), EV, EW, CT, ev_o, ev_is, ev_gd, List.length_cons, List.length_nil, Nat.reduceLT, Nat.reduceAdd, Nat.reduceEqDiff, Nat.reduceLeDiff, Int32.reduceLT, Int32.reduceLE, reduceIte, true_and, and_true, true_or, or_true, not_true_eq_false, not_false_eq_true, false_imp_iff, true_imp_iff, implies_true]
  refine mca_out (w := w) (cs0 := cs0) (ch0 := ch0) (sp0 := sp0) (Lv := Lv) hW' h62 hcc hC hn hP hcs hl hln hwf cc 0 _ (upd cs0 n (nI 1000000)) ch0 sp0 lp op x7 _ _ _ (by omega) (by simp only [cx_up, Nat.reduceEqDiff, reduceIte]; exact h45) (by simp only [cx_up, Nat.reduceEqDiff, reduceIte]; rfl) (by simp only [cx_up, Nat.reduceEqDiff, reduceIte]; exact h68) (by simp only [cx_up, Nat.reduceEqDiff, reduceIte]; exact h69) (by simp only [cx_up, Nat.reduceEqDiff, reduceIte]; exact h71) (by simp only [cx_up, Nat.reduceEqDiff, reduceIte]; exact h72) (fun k q => by unfold frC at q; simp (disch := omega) only [cx_up, if_neg]) (fun j q => ⟨pk_un q, rfl, rfl⟩) ⟨pk_us, fun c sw pins h => (by cases h)⟩
