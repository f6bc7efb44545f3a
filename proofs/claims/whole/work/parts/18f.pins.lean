/-! Choosing at all nodes; gates: the given side. Printed by gen_18f.py. -/
theorem drop_mem {l : List Nat} {i x y : Nat} (h : l.drop (l.length - (i + 1)) = x :: l.drop (l.length - i)) : y ∈ l.drop (l.length - (i + 1)) ↔ (y = x ∨ y ∈ l.drop (l.length - i)) := by rw [h, List.mem_cons]
set_option maxHeartbeats 8000000 in
theorem mp_loop {w : cx_W} {G : Gr} {kd px py : Nat → Nat} {ch cp pn : Nat → Int32} {g c : Nat} {l : List Nat} {P : Nat → Prop} {dd : Nat} (hG : GW w G) (hn : G.1 ≤ 48) (hK : GK G kd px py) (h20 : ∃ x, w 20 = oCo x) (h13 : ∃ x, w 13 = oLi x) (h17 : w 17 = ai 8 pn) (h24 : w 24 = ai 48 ch) (h25 : w 25 = ai 192 cp) (hg : g < 48) (hc : c < 8) (hch : ch g = nI c) (hpn : pn c = nI l.length) (hl4 : l.length ≤ 4) (hlp : Stk (fun i => cp (4 * g + i)) l) (hlG : ∀ x, x ∈ l → x < G.1) :
    ∀ (m i : Nat) (w1 : cx_W) (gm : Nat → Int32) (l3 : Option Value), i + m = l.length → w1 28 = az 48 gm → (∀ k, ¬ k = 28 → w1 k = w k) → BR 48 gm (fun j => P j ∨ (j ∈ l.drop (l.length - i) ∧ (kd j = 2 ∨ kd j = 3))) →
    cx_OK none mCo_markPins (dd + 2) 0 0 (fun r w2 _ => r = none ∧ (∃ gm, w2 28 = az 48 gm ∧ BR 48 gm (fun j => P j ∨ (j ∈ l ∧ (kd j = 2 ∨ kd j = 3)))) ∧ ∀ k, ¬ k = 28 → w2 k = w k) 2 [some (.ref 20), some (.int (nI g)), some (.int (nI i)), l3] [] w1 (87, 0, 0) := by
  obtain ⟨x20, h20⟩ := h20
  obtain ⟨x13, h13⟩ := h13
  obtain ⟨g1, g2, g3, g4⟩ := hG
  have vg : vp_in (nI g) 48 := nI_in hg (by decide)
  have vc : vp_in (nI c) 8 := nI_in hc (by decide)
  intro m
  induction m with
  | zero =>
    intro i w1 gm l3 hi h28 hk hB
    have e : i = l.length := by omega
    subst e
    have E := leT (a := l.length) (b := l.length) (by omega) (by omega)
    have k20 := (hk 20 (by decide)).trans h20
    have k13 := (hk 13 (by decide)).trans h13
    have k17 := (hk 17 (by decide)).trans h17
    have k24 := (hk 24 (by decide)).trans h24
    refine cx_run 100 mCo_markPins_mo ?_
    simp (decide := true) only [BmCo_markPins, BSC, k20, k13, k17, k24, vg, vc, hch, hpn, nI_clamp (n := g) (by omega), nI_clamp (n := c) (by omega), E, EV, EW, CT, ev_o, ev_is, ev_gd, List.length_cons, List.length_nil, Nat.reduceLT, Nat.reduceAdd, Nat.reduceEqDiff, Nat.reduceLeDiff, Int32.reduceLT, Int32.reduceLE, reduceIte, true_and, and_true, true_or, or_true, not_true_eq_false, not_false_eq_true, false_imp_iff, true_imp_iff, implies_true]
    rw [Nat.sub_self, List.drop_zero] at hB
    exact ⟨⟨gm, h28, hB⟩, hk⟩
  | succ m ih =>
    intro i w1 gm l3 hi h28 hk hB
    have E := leF (a := l.length) (b := i) (by omega) (by omega)
    have k20 := (hk 20 (by decide)).trans h20
    have k13 := (hk 13 (by decide)).trans h13
    have k17 := (hk 17 (by decide)).trans h17
    have k24 := (hk 24 (by decide)).trans h24
    have k25 := (hk 25 (by decide)).trans h25
    have k1 := (hk 1 (by decide)).trans g1
    have k2 := (hk 2 (by decide)).trans g2
    have ⟨n, n1, n2, n3⟩ := hlp.at (show i < l.length by omega)
    have n2 : cp (4 * g + i) = nI n := n2
    have hnG := hlG n n1
    have vN : vp_in (nI n) 48 := nI_in (by omega) (by decide)
    have e4 : nI g * 4 + nI i = nI (4 * g + i) := by rw [show nI g * 4 = nI (g * 4) from pk_mul g 4, nI_add, Nat.mul_comm]
    have v4 : vp_in (nI (4 * g + i)) 192 := nI_in (by omega) (by decide)
    have ⟨d1, d2, d3, d4⟩ := hK n hnG
    refine cx_run 100 mCo_markPins_mo ?_
    rcases (show kd n = 0 ∨ kd n = 1 ∨ kd n = 2 ∨ kd n = 3 by omega) with kk | kk | kk | kk
    · have KD : G.2.1 n = 0 := by rw [d1, kk]; rfl
      simp (decide := true) only [KD, BmCo_markPins, BSC, k20, k13, k17, k24, k25, k1, k2, E, vg, vc, vN, v4, e4, hch, hpn, n2, nI_clamp (n := g) (by omega), nI_clamp (n := c) (by omega), nI_clamp (n := n) (by omega), nI_clamp (n := 4 * g + i) (by omega), nI_1, EV, EW, CT, ev_o, ev_is, ev_gd, List.length_cons, List.length_nil, Nat.reduceLT, Nat.reduceAdd, Nat.reduceEqDiff, Nat.reduceLeDiff, Int32.reduceLT, Int32.reduceLE, reduceIte, true_and, and_true, true_or, or_true, not_true_eq_false, not_false_eq_true, false_imp_iff, true_imp_iff, implies_true]
      refine ih (i + 1) w1 gm _ (by omega) h28 hk (hB.congr fun j _ => ?_)
      rw [drop_mem n3]
      constructor
      · rintro (h | ⟨h1, h2⟩)
        · exact .inl h
        · exact .inr ⟨.inr h1, h2⟩
      · rintro (h | ⟨h1 | h1, h2⟩)
        · exact .inl h
        · subst h1; omega
        · exact .inr ⟨h1, h2⟩
    · have KD : G.2.1 n = 1 := by rw [d1, kk]; rfl
      simp (decide := true) only [KD, BmCo_markPins, BSC, k20, k13, k17, k24, k25, k1, k2, E, vg, vc, vN, v4, e4, hch, hpn, n2, nI_clamp (n := g) (by omega), nI_clamp (n := c) (by omega), nI_clamp (n := n) (by omega), nI_clamp (n := 4 * g + i) (by omega), nI_1, EV, EW, CT, ev_o, ev_is, ev_gd, List.length_cons, List.length_nil, Nat.reduceLT, Nat.reduceAdd, Nat.reduceEqDiff, Nat.reduceLeDiff, Int32.reduceLT, Int32.reduceLE, reduceIte, true_and, and_true, true_or, or_true, not_true_eq_false, not_false_eq_true, false_imp_iff, true_imp_iff, implies_true]
      refine ih (i + 1) w1 gm _ (by omega) h28 hk (hB.congr fun j _ => ?_)
      rw [drop_mem n3]
      constructor
      · rintro (h | ⟨h1, h2⟩)
        · exact .inl h
        · exact .inr ⟨.inr h1, h2⟩
      · rintro (h | ⟨h1 | h1, h2⟩)
        · exact .inl h
        · subst h1; omega
        · exact .inr ⟨h1, h2⟩
    · have KD : G.2.1 n = 2 := by rw [d1, kk]; rfl
      simp (decide := true) only [KD, h28, BmCo_markPins, BSC, k20, k13, k17, k24, k25, k1, k2, E, vg, vc, vN, v4, e4, hch, hpn, n2, nI_clamp (n := g) (by omega), nI_clamp (n := c) (by omega), nI_clamp (n := n) (by omega), nI_clamp (n := 4 * g + i) (by omega), nI_1, EV, EW, CT, ev_o, ev_is, ev_gd, List.length_cons, List.length_nil, Nat.reduceLT, Nat.reduceAdd, Nat.reduceEqDiff, Nat.reduceLeDiff, Int32.reduceLT, Int32.reduceLE, reduceIte, true_and, and_true, true_or, or_true, not_true_eq_false, not_false_eq_true, false_imp_iff, true_imp_iff, implies_true]
      refine ih (i + 1) _ (upd gm n 1) _ (by omega) (by simp only [cx_up, Nat.reduceEqDiff, reduceIte]) (fun k q => by rw [← hk k q]; simp (disch := omega) only [cx_up, if_neg]) (hB.set.congr fun j _ => ?_)
      rw [drop_mem n3]
      constructor
      · rintro ((h | ⟨h1, h2⟩) | h)
        · exact .inl h
        · exact .inr ⟨.inr h1, h2⟩
        · exact .inr ⟨.inl h, by subst h; omega⟩
      · rintro (h | ⟨h1 | h1, h2⟩)
        · exact .inl (.inl h)
        · exact .inr h1
        · exact .inl (.inr ⟨h1, h2⟩)
    · have KD : G.2.1 n = 3 := by rw [d1, kk]; rfl
      simp (decide := true) only [KD, h28, BmCo_markPins, BSC, k20, k13, k17, k24, k25, k1, k2, E, vg, vc, vN, v4, e4, hch, hpn, n2, nI_clamp (n := g) (by omega), nI_clamp (n := c) (by omega), nI_clamp (n := n) (by omega), nI_clamp (n := 4 * g + i) (by omega), nI_1, EV, EW, CT, ev_o, ev_is, ev_gd, List.length_cons, List.length_nil, Nat.reduceLT, Nat.reduceAdd, Nat.reduceEqDiff, Nat.reduceLeDiff, Int32.reduceLT, Int32.reduceLE, reduceIte, true_and, and_true, true_or, or_true, not_true_eq_false, not_false_eq_true, false_imp_iff, true_imp_iff, implies_true]
      refine ih (i + 1) _ (upd gm n 1) _ (by omega) (by simp only [cx_up, Nat.reduceEqDiff, reduceIte]) (fun k q => by rw [← hk k q]; simp (disch := omega) only [cx_up, if_neg]) (hB.set.congr fun j _ => ?_)
      rw [drop_mem n3]
      constructor
      · rintro ((h | ⟨h1, h2⟩) | h)
        · exact .inl h
        · exact .inr ⟨.inr h1, h2⟩
        · exact .inr ⟨.inl h, by subst h; omega⟩
      · rintro (h | ⟨h1 | h1, h2⟩)
        · exact .inl (.inl h)
        · exact .inr h1
        · exact .inl (.inr ⟨h1, h2⟩)
set_option maxHeartbeats 4000000 in
theorem c_Co_markPins {w : cx_W} {G : Gr} {kd px py : Nat → Nat} {ch cp pn gm : Nat → Int32} {g c : Nat} {l : List Nat} {P : Nat → Prop} {dd : Nat} (hG : GW w G) (hn : G.1 ≤ 48) (hK : GK G kd px py) (h20 : ∃ x, w 20 = oCo x) (h13 : ∃ x, w 13 = oLi x) (h17 : w 17 = ai 8 pn) (h24 : w 24 = ai 48 ch) (h25 : w 25 = ai 192 cp) (h28 : w 28 = az 48 gm) (hg : g < 48) (hc : c < 8) (hch : ch g = nI c) (hpn : pn c = nI l.length) (hl4 : l.length ≤ 4) (hlp : Stk (fun i => cp (4 * g + i)) l) (hlG : ∀ x, x ∈ l → x < G.1) (hB : BR 48 gm P) :
    cx_MC mCo_markPins (dd + 2) 0 0 [.ref 20, .int (nI g)] w 87 (fun r w2 => r = none ∧ (∃ gm, w2 28 = az 48 gm ∧ BR 48 gm (fun j => P j ∨ (j ∈ l ∧ (kd j = 2 ∨ kd j = 3)))) ∧ ∀ k, ¬ k = 28 → w2 k = w k) := by
  refine cx_met 60 mCo_markPins_ok rfl ?_
  show cx_vc 60 none mCo_markPins (dd + 2) 0 0 _ _ 0 [some (.ref 20), some (.int (nI g)), none, none] [] w (87, 0, 0)
  simp only [BmCo_markPins, EV, EW, CT, ev_o, ev_is, ev_gd, List.length_cons, List.length_nil, Nat.reduceLT, Nat.reduceAdd, Nat.reduceEqDiff, Nat.reduceLeDiff, Int32.reduceLT, Int32.reduceLE, reduceIte, true_and, and_true, true_or, or_true, not_true_eq_false, not_false_eq_true, false_imp_iff, true_imp_iff, implies_true]
  refine mp_loop hG hn hK h20 h13 h17 h24 h25 hg hc hch hpn hl4 hlp hlG l.length 0 w gm _ (by omega) h28 (fun _ _ => rfl) (hB.congr fun j _ => ?_)
  rw [Nat.sub_zero, List.drop_length]
  exact ⟨fun h => .inl h, fun h => h.elim id fun h => absurd h.1 (by simp)⟩
