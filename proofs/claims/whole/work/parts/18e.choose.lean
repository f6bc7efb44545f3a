/-! Choosing at a node: the given side. Own work. -/
def ChR (n : Nat) (cs ch cp : Nat → Int32) (st : ChS) : Prop := cs n = nI st.1 ∧ (st.2 = none → ch n = -1) ∧ ∀ c sw pins, st.2 = some (c, sw, pins) → ch n = nI c ∧ Stk (fun i => cp (4 * n + i)) pins
theorem CoW.of {w w1 : cx_W} {G : Gr} {kd px py : Nat → Nat} {need : Nat → Bool} {us : Nat → Nat} {fn gu pa ndc : Nat → Int32} (h : CoW w G kd px py need us fn gu pa ndc) (hk : ∀ k, k < 23 → w1 k = w k) : CoW w1 G kd px py need us fn gu pa ndc := by
  obtain ⟨⟨g1, g2, g3, g4⟩, hn48, hK, ⟨x20, h20⟩, ⟨x13, h13⟩, h14, h18, h21, hfn, h22, hgu, hus⟩ := h
  exact ⟨⟨(hk 1 (by decide)).trans g1, (hk 2 (by decide)).trans g2, (hk 3 (by decide)).trans g3, (hk 4 (by decide)).trans g4⟩, hn48, hK, ⟨x20, (hk 20 (by decide)).trans h20⟩, ⟨x13, (hk 13 (by decide)).trans h13⟩, (hk 14 (by decide)).trans h14, (hk 18 (by decide)).trans h18, (hk 21 (by decide)).trans h21, hfn, (hk 22 (by decide)).trans h22, hgu, hus⟩
theorem Stk.congr {r1 r2 : Nat → Int32} : ∀ {l : List Nat}, Stk r1 l → (∀ i, i < l.length → r2 i = r1 i) → Stk r2 l
  | [], _, _ => trivial
  | n :: l, h, e => ⟨by rw [e l.length (by simp)]; exact h.1, Stk.congr h.2 fun i hi => e i (by simp only [List.length_cons]; omega)⟩
set_option maxHeartbeats 8000000 in
theorem c_Co_keep {w : cx_W} {G : Gr} {kd px py : Nat → Nat} {need : Nat → Bool} {us cost : Nat → Nat} {fn gu pa ndc ar pn cs ch cp lp : Nat → Int32} {c A n sw : Nat} {l : List Nat} {st : ChS} (hW : CoW w G kd px py need us fn gu pa ndc) (h15 : w 15 = ai 8 ar) (h17 : w 17 = ai 8 pn) (h23 : w 23 = ai 48 cs) (h24 : w 24 = ai 48 ch) (h25 : w 25 = ai 192 cp) (h26 : w 26 = ai 4 lp) (hc : c < 8) (har : ar c = nI A) (hpn : pn c = nI l.length) (hl4 : l.length ≤ 4) (hlp : Stk lp l) (hlG : ∀ x, x ∈ l → x < G.1) (hcs : ∀ x, x ∈ l → nr kd (rtU kd need us) x → cs x = nI (cost x))
    (hn : n < 48) (hv : A + sumL (pc kd (rtU kd need us) cost) l < 2 ^ 31) (hst : st.1 < 2 ^ 31) (hR : ChR n cs ch cp st) :
    cx_MC mCo_keepIfCheaper 9 0 0 [.ref 20, .int (nI c), .int (nI n)] w 87 (fun r w2 => r = none ∧ (∃ cs2 ch2 cp2, w2 23 = ai 48 cs2 ∧ w2 24 = ai 48 ch2 ∧ w2 25 = ai 192 cp2 ∧ ChR n cs2 ch2 cp2 (if A + sumL (pc kd (rtU kd need us) cost) l < st.1 then (A + sumL (pc kd (rtU kd need us) cost) l, some (c, sw, l)) else st) ∧ (∀ j, ¬ j = n → cs2 j = cs j ∧ ch2 j = ch j) ∧ ∀ i, i < 4 * n ∨ 4 * n + 4 ≤ i → cp2 i = cp i) ∧ ∀ k, k < 23 ∨ 25 < k → w2 k = w k) := by
  have hW' := hW
  obtain ⟨⟨g1, g2, g3, g4⟩, hn48, hK, ⟨x20, h20⟩, ⟨x13, h13⟩, h14, h18, h21, hfn, h22, hgu, hus⟩ := hW
  have vn : vp_in (nI n) 48 := nI_in hn (by decide)
  have hcn := hR.1
  refine cx_met 100 mCo_keepIfCheaper_ok rfl ?_
  show cx_vc 100 none mCo_keepIfCheaper 9 0 0 _ _ 0 [some (.ref 20), some (.int (nI c)), some (.int (nI n)), none] [] w (87, 0, 0)
  simp (decide := true) only [BmCo_keepIfCheaper, h20, EV, EW, CT, ev_o, ev_is, ev_gd, List.length_cons, List.length_nil, Nat.reduceLT, Nat.reduceAdd, Nat.reduceEqDiff, Nat.reduceLeDiff, Int32.reduceLT, Int32.reduceLE, reduceIte, true_and, and_true, true_or, or_true, not_true_eq_false, not_false_eq_true, false_imp_iff, true_imp_iff, implies_true]
  refine cx_cs1 8 0 0 (by decide) (c_Co_laidCost (A := A) (dd := 6) hW' h15 h17 h23 h26 hc har hpn hl4 hlp hlG hcs) fun r w2 h2 => ?_
  obtain ⟨rfl, rfl⟩ := h2
  by_cases q : A + sumL (pc kd (rtU kd need us) cost) l < st.1
  · have E := ltT q hst
    rw [if_pos q]
    have e4 : nI n * 4 = nI (4 * n) := by rw [Nat.mul_comm]; exact pk_mul n 4
    have p4 : (nI (4 * n) < 0) = False := eq_false (nI_pos (by omega))
    have l4 : (4 * n ≤ 188) = True := eq_true (by omega)
    simp (decide := true) only [BmCo_keepIfCheaper, h20, h23, h24, h25, h26, vn, hcn, E, e4, p4, l4, nI_clamp (n := n) (by omega), nI_clamp (n := 4 * n) (by omega), Int32.reduceToNatClampNeg, EV, EW, CT, ev_o, ev_is, ev_gd, List.length_cons, List.length_nil, Nat.reduceLT, Nat.reduceAdd, Nat.reduceEqDiff, Nat.reduceLeDiff, Int32.reduceLT, Int32.reduceLE, reduceIte, true_and, and_true, true_or, or_true, not_true_eq_false, not_false_eq_true, false_imp_iff, true_imp_iff, implies_true]
    refine ⟨⟨_, _, _, rfl, rfl, rfl, ⟨pk_us, fun h => (by cases h), fun c' sw' pins' h => ?_⟩, fun j hj => ⟨pk_un hj, pk_un hj⟩, fun i hi => pk_cpy_out (by omega)⟩, fun k hk => by simp (disch := omega) only [if_neg]⟩
    injection h with h
    injection h with h1 h
    injection h with h2 h3
    subst h1; subst h3
    refine ⟨pk_us, hlp.congr fun i hi => ?_⟩
    rw [pk_cpy_in (by omega) (by omega)]
    congr 1
    omega
  · have E := ltF (a := A + sumL (pc kd (rtU kd need us) cost) l) (b := st.1) (by omega) hv
    rw [if_neg q]
    simp (decide := true) only [BmCo_keepIfCheaper, h20, h23, vn, hcn, E, nI_clamp (n := n) (by omega), EV, EW, CT, ev_o, ev_is, ev_gd, List.length_cons, List.length_nil, Nat.reduceLT, Nat.reduceAdd, Nat.reduceEqDiff, Nat.reduceLeDiff, Int32.reduceLT, Int32.reduceLE, reduceIte, true_and, and_true, true_or, or_true, not_true_eq_false, not_false_eq_true, false_imp_iff, true_imp_iff, implies_true]
    refine ⟨cs, ch, cp, ?_, h24, h25, hR, fun _ _ => ⟨rfl, rfl⟩, fun _ _ => rfl⟩
    first | rfl | exact h23
def CellsC (cc : Nat) (pa ar pn ndc : Nat → Int32) (p A : Nat → Nat) : Prop := ∀ c, c < cc → p c ∈ pats ∧ pa c = nI (p c) ∧ ar c = nI (A c) ∧ A c ≤ 1000 ∧ pn c = nI (pinsP (p c)) ∧ ndc c = nI (nandsP (p c))
/-- what choosing at n may rely on: the pins of every laying lie below n, inside trees their costs are known -/
def PinsC (kd px py : Nat → Nat) (rt : Nat → Bool) (p : Nat → Nat) (cc n : Nat) (cost : Nat → Nat) (cs : Nat → Int32) : Prop :=
  ∀ c sw pins, c < cc → layC kd px py rt p n c sw = some pins → pins.length = pinsP (p c) ∧ ∀ x, x ∈ pins → x < n ∧ (nr kd rt x → cs x = nI (cost x) ∧ cost x ≤ 48000)
theorem sumL_le {f : Nat → Nat} {b : Nat} : ∀ {l : List Nat}, (∀ x, x ∈ l → f x ≤ b) → sumL f l ≤ b * l.length
  | [], _ => by simp [sumL]
  | x :: l, h => by
    have h1 := h x (List.mem_cons_self ..)
    have h2 := sumL_le (l := l) (b := b) fun y hy => h y (List.mem_cons_of_mem _ hy)
    simp only [sumL, List.length_cons, Nat.mul_add, Nat.mul_one]
    omega
theorem val_le {kd px py : Nat → Nat} {rt : Nat → Bool} {p A : Nat → Nat} {cc n c sw : Nat} {cost : Nat → Nat} {cs : Nat → Int32} {pins : List Nat} (hP : PinsC kd px py rt p cc n cost cs) (hc : c < cc) (hA : A c ≤ 1000) (hp : p c ∈ pats) (h : layC kd px py rt p n c sw = some pins) : valC kd rt A cost c pins ≤ 193000 := by
  have ⟨h1, h2⟩ := hP c sw pins hc h
  have h4 := (pat_num hp).2.1
  have := sumL_le (f := pc kd rt cost) (b := 48000) (l := pins) fun x hx => by
    unfold pc
    split
    · rename_i hr; exact ((h2 x hx).2 hr).2
    · omega
  unfold valC
  omega
set_option maxHeartbeats 8000000 in
theorem ca_in {w : cx_W} {G : Gr} {kd px py : Nat → Nat} {need : Nat → Bool} {us cost p A : Nat → Nat} {fn gu pa ndc ar pn cs0 ch0 cp0 : Nat → Int32} {cc c n : Nat} {st0 : ChS} {Q : cx_Q} (hW : CoW w G kd px py need us fn gu pa ndc) (h15 : w 15 = ai 8 ar) (h17 : w 17 = ai 8 pn) (hcc : cc ≤ 8) (hC : CellsC cc pa ar pn ndc p A) (hc : c < cc) (hn : n < G.1) (hP : PinsC kd px py (rtU kd need us) p cc n cost cs0) (hst0 : st0.1 ≤ 48001)
    (hQ : ∀ (w1 : cx_W) (cs ch cp lp op : Nat → Int32) (l3 l4 : Option Value), w1 23 = ai 48 cs → w1 24 = ai 48 ch → w1 25 = ai 192 cp → w1 26 = ai 4 lp → w1 27 = ai 8 op → (∀ k, k < 23 ∨ 27 < k → w1 k = w k) → (∀ j, ¬ j = n → cs j = cs0 j ∧ ch j = ch0 j) → (∀ i, i < 4 * n ∨ 4 * n + 4 ≤ i → cp i = cp0 i) → ChR n cs ch cp (chW (layC kd px py (rtU kd need us) p n) (valC kd (rtU kd need us) A cost) c (2 ^ nandsP (p c)) st0) →
      cx_OK none mCo_chooseAt 10 0 0 Q 17 [some (.ref 20), some (.int (nI n)), some (.int (nI (c + 1))), l3, l4] [] w1 (87, 0, 0)) :
    ∀ (m sw : Nat) (w1 : cx_W) (cs ch cp lp op : Nat → Int32), sw + m = 2 ^ nandsP (p c) → w1 23 = ai 48 cs → w1 24 = ai 48 ch → w1 25 = ai 192 cp → w1 26 = ai 4 lp → w1 27 = ai 8 op → (∀ k, k < 23 ∨ 27 < k → w1 k = w k) → (∀ j, ¬ j = n → cs j = cs0 j ∧ ch j = ch0 j) → (∀ i, i < 4 * n ∨ 4 * n + 4 ≤ i → cp i = cp0 i) → ChR n cs ch cp (chW (layC kd px py (rtU kd need us) p n) (valC kd (rtU kd need us) A cost) c sw st0) →
      cx_OK none mCo_chooseAt 10 0 0 Q 42 [some (.ref 20), some (.int (nI n)), some (.int (nI c)), some (.int (nI (2 ^ nandsP (p c)))), some (.int (nI sw))] [] w1 (87, 0, 0) := by
  have hW' := hW
  obtain ⟨⟨g1, g2, g3, g4⟩, hn48, hK, ⟨x20, h20⟩, ⟨x13, h13⟩, h14, h18, h21, hfn, h22, hgu, hus⟩ := hW
  have ⟨c1, c2, c3, c4, c5, c6⟩ := hC c hc
  have ⟨_, p4, p5, _, _, _⟩ := pat_num c1
  have w8 : 2 ^ nandsP (p c) ≤ 2 ^ 3 := Nat.pow_le_pow_right (by decide) p5
  intro m
  induction m with
  | zero =>
    intro sw w1 cs ch cp lp op hs h23 h24 h25 h26 h27 hk hj hi hR
    have e : sw = 2 ^ nandsP (p c) := by omega
    subst e
    have E := leT (a := 2 ^ nandsP (p c)) (b := 2 ^ nandsP (p c)) (by omega) (by omega)
    refine cx_run 60 mCo_chooseAt_mo ?_
    simp (decide := true) only [BmCo_chooseAt, E, nI_1, EV, EW, CT, ev_o, ev_is, ev_gd, List.length_cons, List.length_nil, Nat.reduceLT, Nat.reduceAdd, Nat.reduceEqDiff, Nat.reduceLeDiff, Int32.reduceLT, Int32.reduceLE, reduceIte, true_and, and_true, true_or, or_true, not_true_eq_false, not_false_eq_true, false_imp_iff, true_imp_iff, implies_true]
    exact hQ w1 cs ch cp lp op _ _ h23 h24 h25 h26 h27 hk hj hi hR
  | succ m ih =>
    intro sw w1 cs ch cp lp op hs h23 h24 h25 h26 h27 hk hj hi hR
    have E := leF (a := 2 ^ nandsP (p c)) (b := sw) (by omega) (by omega)
    have k20 := (hk 20 (by decide)).trans h20
    have hW1 := hW'.of (w1 := w1) fun k q => hk k (.inl q)
    refine cx_run 60 mCo_chooseAt_mo ?_
    simp (decide := true) only [BmCo_chooseAt, k20, E, EV, EW, CT, ev_o, ev_is, ev_gd, List.length_cons, List.length_nil, Nat.reduceLT, Nat.reduceAdd, Nat.reduceEqDiff, Nat.reduceLeDiff, Int32.reduceLT, Int32.reduceLE, reduceIte, true_and, and_true, true_or, or_true, not_true_eq_false, not_false_eq_true, false_imp_iff, true_imp_iff, implies_true]
    refine cx_cs1 9 0 0 (by decide) (c_Co_lay (dd := 7) (sw := sw) hW1 (by omega) c2 c6 c1 (by omega) hn h26 h27) fun r w2 h2 => ?_
    obtain ⟨⟨op2, lp2, a27, a26, hr⟩, ak⟩ := h2
    have k23 := (ak 23 (by decide)).trans h23
    have k24 := (ak 24 (by decide)).trans h24
    have k25 := (ak 25 (by decide)).trans h25
    rcases hr with ⟨pins, l1, l2, rfl⟩ | ⟨l1, rfl⟩
    · have hP2 := hP c sw pins hc l1
      have b20 := (ak 20 (by decide)).trans k20
      have hW2 := hW1.of (w1 := w2) fun k q => ak k (by omega)
      have hval : valC kd (rtU kd need us) A cost c pins ≤ 193000 := val_le hP hc c4 c1 l1
      have hst : (chW (layC kd px py (rtU kd need us) p n) (valC kd (rtU kd need us) A cost) c sw st0).1 ≤ st0.1 := chW_le sw
      simp (decide := true) only [BmCo_chooseAt, b20, EV, EW, CT, ev_o, ev_is, ev_gd, List.length_cons, List.length_nil, Nat.reduceLT, Nat.reduceAdd, Nat.reduceEqDiff, Nat.reduceLeDiff, Int32.reduceLT, Int32.reduceLE, reduceIte, true_and, and_true, true_or, or_true, not_true_eq_false, not_false_eq_true, false_imp_iff, true_imp_iff, implies_true]
      refine cx_cs1 9 0 0 (by decide) (c_Co_keep (n := n) (sw := sw) (A := A c) (cost := cost) (l := pins) hW2 ((ak 15 (by decide)).trans ((hk 15 (by decide)).trans h15)) ((ak 17 (by decide)).trans ((hk 17 (by decide)).trans h17)) k23 k24 k25 a26 (by omega) c3 (by rw [c5, hP2.1]) (by omega) l2 (fun x hx => by have := (hP2.2 x hx).1; omega) (fun x hx hr => by
        have h3 := hP2.2 x hx
        rw [(hj x (by omega)).1]; exact (h3.2 hr).1) (by omega) (show valC kd (rtU kd need us) A cost c pins < 2 ^ 31 by omega) (by omega) hR) fun r w3 h3 => ?_
      obtain ⟨rfl, ⟨cs2, ch2, cp2, b23, b24, b25, bR, bj, bi⟩, bk⟩ := h3
      simp (decide := true) only [BmCo_chooseAt, nI_1, EV, EW, CT, ev_o, ev_is, ev_gd, List.length_cons, List.length_nil, Nat.reduceLT, Nat.reduceAdd, Nat.reduceEqDiff, Nat.reduceLeDiff, Int32.reduceLT, Int32.reduceLE, reduceIte, true_and, and_true, true_or, or_true, not_true_eq_false, not_false_eq_true, false_imp_iff, true_imp_iff, implies_true]
      refine ih (sw + 1) w3 cs2 ch2 cp2 lp2 op2 (by omega) b23 b24 b25 ((bk 26 (by decide)).trans a26) ((bk 27 (by decide)).trans a27) (fun k q => (bk k (by omega)).trans ((ak k (by omega)).trans (hk k q))) (fun j q => ⟨(bj j q).1.trans (hj j q).1, (bj j q).2.trans (hj j q).2⟩) (fun i q => (bi i q).trans (hi i q)) ?_
      show ChR n cs2 ch2 cp2 (ch1 _ _ c sw _)
      rw [ch1_s (show layC kd px py (rtU kd need us) p n c sw = some pins from l1)]
      exact bR
    · simp (decide := true) only [BmCo_chooseAt, nI_1, EV, EW, CT, ev_o, ev_is, ev_gd, List.length_cons, List.length_nil, Nat.reduceLT, Nat.reduceAdd, Nat.reduceEqDiff, Nat.reduceLeDiff, Int32.reduceLT, Int32.reduceLE, reduceIte, true_and, and_true, true_or, or_true, not_true_eq_false, not_false_eq_true, false_imp_iff, true_imp_iff, implies_true]
      refine ih (sw + 1) w2 cs ch cp lp2 op2 (by omega) k23 k24 k25 a26 a27 (fun k q => (ak k (by omega)).trans (hk k q)) hj hi ?_
      show ChR n cs ch cp (ch1 _ _ c sw _)
      rw [ch1_n (show layC kd px py (rtU kd need us) p n c sw = none from l1)]
      exact hR
set_option maxHeartbeats 8000000 in
theorem ca_out {w : cx_W} {G : Gr} {kd px py : Nat → Nat} {need : Nat → Bool} {us cost p A : Nat → Nat} {fn gu pa ndc ar pn cs0 ch0 cp0 : Nat → Int32} {cc n : Nat} (hW : CoW w G kd px py need us fn gu pa ndc) (h13 : w 13 = oLi (nI cc)) (h15 : w 15 = ai 8 ar) (h17 : w 17 = ai 8 pn) (hcc : cc ≤ 8) (hC : CellsC cc pa ar pn ndc p A) (hn : n < G.1) (hP : PinsC kd px py (rtU kd need us) p cc n cost cs0) :
    ∀ (m c : Nat) (w1 : cx_W) (cs ch cp lp op : Nat → Int32) (l3 l4 : Option Value), c + m = cc → w1 23 = ai 48 cs → w1 24 = ai 48 ch → w1 25 = ai 192 cp → w1 26 = ai 4 lp → w1 27 = ai 8 op → (∀ k, k < 23 ∨ 27 < k → w1 k = w k) → (∀ j, ¬ j = n → cs j = cs0 j ∧ ch j = ch0 j) → (∀ i, i < 4 * n ∨ 4 * n + 4 ≤ i → cp i = cp0 i) → ChR n cs ch cp (chC (layC kd px py (rtU kd need us) p n) (valC kd (rtU kd need us) A cost) (fun c => 2 ^ nandsP (p c)) c (48001, none)) →
      cx_OK none mCo_chooseAt 10 0 0 (fun r w2 _ => r = none ∧ (∃ cs ch cp lp op, w2 23 = ai 48 cs ∧ w2 24 = ai 48 ch ∧ w2 25 = ai 192 cp ∧ w2 26 = ai 4 lp ∧ w2 27 = ai 8 op ∧ (∀ j, ¬ j = n → cs j = cs0 j ∧ ch j = ch0 j) ∧ (∀ i, i < 4 * n ∨ 4 * n + 4 ≤ i → cp i = cp0 i) ∧ ChR n cs ch cp (bestC kd px py (rtU kd need us) p A cc cost 48001 n)) ∧ ∀ k, k < 23 ∨ 27 < k → w2 k = w k) 17 [some (.ref 20), some (.int (nI n)), some (.int (nI c)), l3, l4] [] w1 (87, 0, 0) := by
  have hW' := hW
  obtain ⟨⟨g1, g2, g3, g4⟩, hn48, hK, ⟨x20, h20⟩, _, h14, h18, h21, hfn, h22, hgu, hus⟩ := hW
  intro m
  induction m with
  | zero =>
    intro c w1 cs ch cp lp op l3 l4 hs h23 h24 h25 h26 h27 hk hj hi hR
    have e : c = cc := by omega
    subst e
    have E := leT (a := c) (b := c) (by omega) (by omega)
    have k20 := (hk 20 (by decide)).trans h20
    have k13 := (hk 13 (by decide)).trans h13
    refine cx_run 60 mCo_chooseAt_mo ?_
    simp (decide := true) only [BmCo_chooseAt, BSC, k20, k13, E, EV, EW, CT, ev_o, ev_is, ev_gd, List.length_cons, List.length_nil, Nat.reduceLT, Nat.reduceAdd, Nat.reduceEqDiff, Nat.reduceLeDiff, Int32.reduceLT, Int32.reduceLE, reduceIte, true_and, and_true, true_or, or_true, not_true_eq_false, not_false_eq_true, false_imp_iff, true_imp_iff, implies_true]
    exact ⟨⟨cs, ch, cp, lp, op, h23, h24, h25, h26, h27, hj, hi, hR⟩, hk⟩
  | succ m ih =>
    intro c w1 cs ch cp lp op l3 l4 hs h23 h24 h25 h26 h27 hk hj hi hR
    have E := leF (a := cc) (b := c) (by omega) (by omega)
    have k20 := (hk 20 (by decide)).trans h20
    have k13 := (hk 13 (by decide)).trans h13
    have k18 := (hk 18 (by decide)).trans h18
    have vc : vp_in (nI c) 8 := nI_in (by omega) (by decide)
    have ⟨c1, c2, c3, c4, c5, c6⟩ := hC c (by omega)
    have ⟨_, p4, p5, _, _, _⟩ := pat_num c1
    have w8 : 2 ^ nandsP (p c) ≤ 2 ^ 3 := Nat.pow_le_pow_right (by decide) p5
    have es : (1 : Int32) <<< (nI (nandsP (p c)) &&& 31) = nI (2 ^ nandsP (p c)) := by
      have := shlN (a := 1) (k := nandsP (p c)) (by omega) (by omega)
      rw [Nat.one_mul] at this
      exact this
    have hle : (chC (layC kd px py (rtU kd need us) p n) (valC kd (rtU kd need us) A cost) (fun c => 2 ^ nandsP (p c)) c (48001, none)).1 ≤ 48001 := by
      have : ∀ c, (chC (layC kd px py (rtU kd need us) p n) (valC kd (rtU kd need us) A cost) (fun c => 2 ^ nandsP (p c)) c (48001, none)).1 ≤ 48001 := by
        intro c
        induction c with
        | zero => exact Nat.le_refl _
        | succ c ih => exact Nat.le_trans (chW_le _) ih
      exact this c
    refine cx_run 60 mCo_chooseAt_mo ?_
    simp (decide := true) only [BmCo_chooseAt, BSC, k20, k13, k18, E, vc, c6, es, nI_clamp (n := c) (by omega), EV, EW, CT, ev_o, ev_is, ev_gd, List.length_cons, List.length_nil, Nat.reduceLT, Nat.reduceAdd, Nat.reduceEqDiff, Nat.reduceLeDiff, Int32.reduceLT, Int32.reduceLE, reduceIte, true_and, and_true, true_or, or_true, not_true_eq_false, not_false_eq_true, false_imp_iff, true_imp_iff, implies_true]
    exact ca_in hW' h15 h17 hcc hC (by omega) hn hP hle (fun w2 cs2 ch2 cp2 lp2 op2 l3 l4 a b c d e f g h i => ih _ w2 cs2 ch2 cp2 lp2 op2 l3 l4 (by omega) a b c d e f g h i) (2 ^ nandsP (p c)) 0 w1 cs ch cp lp op (by omega) h23 h24 h25 h26 h27 hk hj hi hR
set_option maxHeartbeats 8000000 in
theorem c_Co_chooseAt {w : cx_W} {G : Gr} {kd px py : Nat → Nat} {need : Nat → Bool} {us cost p A : Nat → Nat} {fn gu pa ndc ar pn cs0 ch0 cp0 lp op : Nat → Int32} {cc n : Nat} (hW : CoW w G kd px py need us fn gu pa ndc) (h13 : w 13 = oLi (nI cc)) (h15 : w 15 = ai 8 ar) (h17 : w 17 = ai 8 pn) (h23 : w 23 = ai 48 cs0) (h24 : w 24 = ai 48 ch0) (h25 : w 25 = ai 192 cp0) (h26 : w 26 = ai 4 lp) (h27 : w 27 = ai 8 op) (hcc : cc ≤ 8) (hC : CellsC cc pa ar pn ndc p A) (hn : n < G.1) (hP : PinsC kd px py (rtU kd need us) p cc n cost cs0) :
    cx_MC mCo_chooseAt 10 0 0 [.ref 20, .int (nI n)] w 87 (fun r w2 => r = none ∧ (∃ cs ch cp lp op, w2 23 = ai 48 cs ∧ w2 24 = ai 48 ch ∧ w2 25 = ai 192 cp ∧ w2 26 = ai 4 lp ∧ w2 27 = ai 8 op ∧ (∀ j, ¬ j = n → cs j = cs0 j ∧ ch j = ch0 j) ∧ (∀ i, i < 4 * n ∨ 4 * n + 4 ≤ i → cp i = cp0 i) ∧ ChR n cs ch cp (bestC kd px py (rtU kd need us) p A cc cost 48001 n)) ∧ ∀ k, k < 23 ∨ 27 < k → w2 k = w k) := by
  have hW' := hW
  obtain ⟨⟨g1, g2, g3, g4⟩, hn48, hK, ⟨x20, h20⟩, _, h14, h18, h21, hfn, h22, hgu, hus⟩ := hW
  have vn : vp_in (nI n) 48 := nI_in (by omega) (by decide)
  refine cx_met 60 mCo_chooseAt_ok rfl ?_
  show cx_vc 60 none mCo_chooseAt 10 0 0 _ _ 0 [some (.ref 20), some (.int (nI n)), none, none, none] [] w (87, 0, 0)
  simp (decide := true) only [BmCo_chooseAt, h20, h23, h24, vn, nI_clamp (n := n) (by omega), EV, EW, CT, ev_o, ev_is, ev_gd, List.length_cons, List.length_nil, Nat.reduceLT, Nat.reduceAdd, Nat.reduceEqDiff, Nat.reduceLeDiff, Int32.reduceLT, Int32.reduceLE, reduceIte, true_and, and_true, true_or, or_true, not_true_eq_false, not_false_eq_true, false_imp_iff, true_imp_iff, implies_true]
  refine ca_out (w := w) (cs0 := cs0) (ch0 := ch0) (cp0 := cp0) hW' h13 h15 h17 hcc hC hn hP cc 0 _ (upd cs0 n (nI 48001)) (upd ch0 n (-1)) cp0 lp op _ _ (by omega) (by simp only [cx_up, Nat.reduceEqDiff, reduceIte]; rfl) (by simp only [cx_up, Nat.reduceEqDiff, reduceIte]) (by simp only [cx_up, Nat.reduceEqDiff, reduceIte]; exact h25) (by simp only [cx_up, Nat.reduceEqDiff, reduceIte]; exact h26) (by simp only [cx_up, Nat.reduceEqDiff, reduceIte]; exact h27) (fun k q => by simp (disch := omega) only [cx_up, if_neg]) (fun j q => ⟨pk_un q, pk_un q⟩) (fun _ _ => rfl) ⟨pk_us, fun _ => pk_us, fun c sw pins h => (by cases h)⟩
