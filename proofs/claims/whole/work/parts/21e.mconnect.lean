/-! Connecting a gate: the reference. Printed by gen_21e.py. -/
def CnM (ch : Nat → Nat × Nat × Nat) (so la_ : Nat → Int32) (st : Nat → Int64) (f : Nat) (l : List Nat) (n : Nat) : Prop :=
  ∀ i, i < n → so (f + i) = nI (ch (pinI l i)).1 ∧ la_ (f + i) = nI (ch (pinI l i)).2.1 ∧ st (f + i) = lN (ch (pinI l i)).2.2
/-- what the reference's connecting reads -/
def MkW (w : cx_W) (H : Gr) (kd px py : Nat → Nat) (na dr no fi : Nat → Int32) (nx fb : Nat → Nat) : Prop :=
  w 47 = ai 40 na ∧ w 48 = ai 40 fi ∧ w 50 = ai 40 dr ∧ w 56 = ai 48 H.2.1 ∧ w 59 = ai 48 no ∧ H.1 ≤ 48 ∧ GKM H kd px py ∧ DrvM H na dr no nx ∧ FbM H fi no fb
theorem cx_CS_then {d a : Nat} {as : List Value} {w : cx_W} {k : cx_Q} {R : cx_W → Prop} (h : cx_CS d 0 0 a as w (87, 0, 0) (fun r w2 _ => r = none ∧ R w2)) (hk : ∀ w2, R w2 → k none w2 (87, 0, 0)) : cx_CS d 0 0 a as w (87, 0, 0) k := by
  obtain ⟨d2, ce, sl, Q2, hr, hm, hq⟩ := h
  have h0 : ce = 0 := by have := hr.2.2.1; simp only at this; omega
  have h1 : sl = 0 := by have := hr.2.2.2; simp only at this; omega
  subst h0; subst h1
  exact ⟨d2, 0, 0, Q2, hr, hm, fun r w2 q => by obtain ⟨e, z⟩ := hq r w2 q; rw [e]; exact hk w2 z⟩
def fr5 (k : Nat) : Prop := ¬ k = 70 ∧ ¬ k = 73 ∧ ¬ k = 74 ∧ ¬ k = 75
set_option maxHeartbeats 16000000 in
theorem mcp_loop {w : cx_W} {H : Gr} {kd px py : Nat → Nat} {na dr no fi lp so0 la0 : Nat → Int32} {st0 : Nat → Int64} {nx fb : Nat → Nat} {g : Nat} {l : List Nat} {P : Nat → Prop} {x0 x1 x2 x3 x4 x5 x6 x8 x9 : Int32} {Q : cx_Q} (hW : MkW w H kd px py na dr no fi nx fb) (h45 : w 45 = oM x0 x1 x2 x3 x4 x5 x6 (nI l.length) x8 x9) (h72 : w 72 = ai 4 lp) (hlp : Stk lp l) (hl4 : l.length ≤ 4) (hlG : ∀ x, x ∈ l → x < H.1) (hg : g < 48)
    (hQ : ∀ (w1 : cx_W) (gr so la_ : Nat → Int32) (st : Nat → Int64) (l2 : Option Value), w1 70 = az 48 gr → w1 73 = ai 196 so → w1 74 = ai 196 la_ → w1 75 = al 196 st → (∀ k, fr5 k → w1 k = w k) → BR 48 gr (fun j => P j ∨ (j ∈ l ∧ (kd j = 2 ∨ kd j = 3))) → (∀ e, ¬ (4 * g ≤ e ∧ e < 4 * g + l.length) → so e = so0 e ∧ la_ e = la0 e ∧ st e = st0 e) → CnM (fun x => chn (laN H) nx fb x 7) so la_ st (4 * g) l l.length →
      cx_OK none mM_cover 11 0 0 Q 71 [some (.ref 45), some (.int (nI g + -1)), l2] [] w1 (87, 0, 0)) :
    ∀ (m i : Nat) (w1 : cx_W) (gr so la_ : Nat → Int32) (st : Nat → Int64), i + m = l.length → w1 70 = az 48 gr → w1 73 = ai 196 so → w1 74 = ai 196 la_ → w1 75 = al 196 st → (∀ k, fr5 k → w1 k = w k) → BR 48 gr (fun j => P j ∨ (j ∈ l.drop (l.length - i) ∧ (kd j = 2 ∨ kd j = 3))) → (∀ e, ¬ (4 * g ≤ e ∧ e < 4 * g + i) → so e = so0 e ∧ la_ e = la0 e ∧ st e = st0 e) → CnM (fun x => chn (laN H) nx fb x 7) so la_ st (4 * g) l i →
      cx_OK none mM_cover 11 0 0 Q 138 [some (.ref 45), some (.int (nI g)), some (.int (nI i))] [] w1 (87, 0, 0) := by
  obtain ⟨h47, h48, h50, h56, h59, hn, hK, hD, hF⟩ := hW
  intro m
  induction m with
  | zero =>
    intro i w1 gr so la_ st hi h70 h73 h74 h75 hk hB he hA
    have e : i = l.length := by omega
    subst e
    have E := leT (a := l.length) (b := l.length) (by omega) (by omega)
    have k45 := (hk 45 (by unfold fr5; decide)).trans h45
    rw [Nat.sub_self, List.drop_zero] at hB
    refine cx_run 100 mM_cover_mo ?_
    simp (decide := true) only [BmM_cover, k45, E, EV, EW, CT, ev_o, ev_is, ev_gd, List.length_cons, List.length_nil, Nat.reduceLT, Nat.reduceAdd, Nat.reduceEqDiff, Nat.reduceLeDiff, Int32.reduceLT, Int32.reduceLE, reduceIte, true_and, and_true, true_or, or_true, not_true_eq_false, not_false_eq_true, false_imp_iff, true_imp_iff, implies_true]
    exact hQ w1 gr so la_ st _ h70 h73 h74 h75 hk hB he hA
  | succ m ih =>
    intro i w1 gr so la_ st hi h70 h73 h74 h75 hk hB he hA
    have E := leF (a := l.length) (b := i) (by omega) (by omega)
    have k45 := (hk 45 (by unfold fr5; decide)).trans h45
    have k56 := (hk 56 (by unfold fr5; decide)).trans h56
    have k72 := (hk 72 (by unfold fr5; decide)).trans h72
    have v1 : vp_in (nI i) 4 := nI_in (by omega) (by decide)
    have ⟨x, n1, n2, n3⟩ := hlp.at (show i < l.length by omega)
    have ⟨n4, _⟩ := hlp.pin (show i < l.length by omega)
    have ex : x = pinI l i := by
      have := n2.symm.trans n4
      unfold pinI; rw [n3]; rfl
    have hxG := hlG x n1
    have vx : vp_in (nI x) 48 := nI_in (by omega) (by decide)
    have e4 : 4 * nI g + nI i = nI (4 * g + i) := by rw [mu4, nI_add]
    have ⟨d1, d2, d3, d4⟩ := hK x hxG
    have go : ∀ y : Int32, ((P x ∨ (x ∈ l.drop (l.length - i) ∧ (kd x = 2 ∨ kd x = 3))) ∨ (kd x = 2 ∨ kd x = 3) → y = 1) → (¬ ((P x ∨ (x ∈ l.drop (l.length - i) ∧ (kd x = 2 ∨ kd x = 3))) ∨ (kd x = 2 ∨ kd x = 3)) → y = 0) →
        cx_CS 11 0 0 169 [.ref 45, .int (nI (4 * g + i)), .int (nI x)] (cx_up w1 70 (az 48 (upd gr x y))) (87, 0, 0) (fun r w2 _ => r = none ∧ cx_OK none mM_cover 11 0 0 Q 138 [some (.ref 45), some (.int (nI g)), some (.int (nI (i + 1)))] [] w2 (87, 0, 0)) := by
      intro y a b
      refine cx_cs1 9 0 0 (by decide) (c_M_connect (dd := 9) (at_ := 4 * g + i) (nx := nx) (fb := fb) (by simp only [cx_up, Nat.reduceEqDiff, reduceIte]; exact k45) (by simp only [cx_up, Nat.reduceEqDiff, reduceIte]; exact (hk 47 (by unfold fr5; decide)).trans h47) (by simp only [cx_up, Nat.reduceEqDiff, reduceIte]; exact (hk 48 (by unfold fr5; decide)).trans h48) (by simp only [cx_up, Nat.reduceEqDiff, reduceIte]; exact (hk 50 (by unfold fr5; decide)).trans h50) (by simp only [cx_up, Nat.reduceEqDiff, reduceIte]; exact k56) (by simp only [cx_up, Nat.reduceEqDiff, reduceIte]; exact (hk 59 (by unfold fr5; decide)).trans h59) hn hD hF (by simp only [cx_up, Nat.reduceEqDiff, reduceIte]; exact h73) (by simp only [cx_up, Nat.reduceEqDiff, reduceIte]; exact h74) (by simp only [cx_up, Nat.reduceEqDiff, reduceIte]; exact h75) (by omega) hxG) fun r w2 h2 => ?_
      obtain ⟨rfl, a73, a74, a75, ak⟩ := h2
      refine ⟨rfl, ih (i + 1) w2 (upd gr x y) _ _ _ (by omega) ((ak 70 (by decide)).trans (by simp only [cx_up, Nat.reduceEqDiff, reduceIte])) a73 a74 a75 (fun k q => by rw [← hk k q]; unfold fr5 at q; exact (ak k (by omega)).trans (by simp (disch := omega) only [cx_up, if_neg])) ?_ (fun e z => ?_) (fun j hj => ?_)⟩
      · refine hB.put (fun h => a ?_) (fun h => b fun z => h ?_) (fun j _ hj => ?_)
        · rw [drop_mem n3] at h
          rcases h with h | ⟨h1 | h1, h2⟩
          · exact .inl (.inl h)
          · exact .inr h2
          · exact .inl (.inr ⟨h1, h2⟩)
        · rw [drop_mem n3]
          rcases z with (z | ⟨z1, z2⟩) | z
          · exact .inl z
          · exact .inr ⟨.inl rfl, z2⟩
          · exact .inr ⟨.inl rfl, z⟩
        · rw [drop_mem n3]
          exact ⟨fun h => h.elim .inl fun z => .inr ⟨.inr z.1, z.2⟩, fun h => h.elim .inl fun z => .inr ⟨z.1.resolve_left hj, z.2⟩⟩
      · have ⟨b1, b2, b3⟩ := he e (fun q => z ⟨q.1, by omega⟩)
        have ne : ¬ e = 4 * g + i := fun q => z ⟨by omega, by omega⟩
        rw [pk_un ne, pk_un ne, pk_uLn ne]
        exact ⟨b1, b2, b3⟩
      · by_cases e : j = i
        · subst e; rw [pk_us, pk_us, pk_uLs, ex]; exact ⟨rfl, rfl, rfl⟩
        · rw [pk_un (by omega), pk_un (by omega), pk_uLn (by omega)]
          exact hA j (by omega)
    refine cx_run 100 mM_cover_mo ?_
    by_cases q : P x ∨ (x ∈ l.drop (l.length - i) ∧ (kd x = 2 ∨ kd x = 3))
    · have F : gr x = 1 := (hB x (by omega)).1 q
      simp (decide := true) only [BmM_cover, BSM, k45, k56, k72, h70, E, v1, vx, n2, e4, F, nI_clamp (n := i) (by omega), nI_clamp (n := x) (by omega), EV, EW, CT, ev_o, ev_is, ev_gd, List.length_cons, List.length_nil, Nat.reduceLT, Nat.reduceAdd, Nat.reduceEqDiff, Nat.reduceLeDiff, Int32.reduceLT, Int32.reduceLE, reduceIte, true_and, and_true, true_or, or_true, not_true_eq_false, not_false_eq_true, false_imp_iff, true_imp_iff, implies_true]
      exact cx_CS_then (go 1 (fun _ => rfl) (fun h => absurd (.inl q) h)) fun w2 hok => by
        simp (decide := true) only [BmM_cover, nI_1, EV, EW, CT, ev_o, ev_is, ev_gd, List.length_cons, List.length_nil, Nat.reduceLT, Nat.reduceAdd, Nat.reduceEqDiff, Nat.reduceLeDiff, Int32.reduceLT, Int32.reduceLE, reduceIte, true_and, and_true, true_or, or_true, not_true_eq_false, not_false_eq_true, false_imp_iff, true_imp_iff, implies_true]
        exact hok
    · have F : gr x = 0 := (hB x (by omega)).2 q
      rcases (show kd x = 0 ∨ kd x = 1 ∨ kd x = 2 ∨ kd x = 3 by omega) with kk | kk | kk | kk
      · have KD : H.2.1 x = 0 := by rw [d1, kk]; rfl
        simp (decide := true) only [KD, BmM_cover, BSM, k45, k56, k72, h70, E, v1, vx, n2, e4, F, nI_clamp (n := i) (by omega), nI_clamp (n := x) (by omega), EV, EW, CT, ev_o, ev_is, ev_gd, List.length_cons, List.length_nil, Nat.reduceLT, Nat.reduceAdd, Nat.reduceEqDiff, Nat.reduceLeDiff, Int32.reduceLT, Int32.reduceLE, reduceIte, true_and, and_true, true_or, or_true, not_true_eq_false, not_false_eq_true, false_imp_iff, true_imp_iff, implies_true]
        exact cx_CS_then (go 0 (fun h => h.elim (fun z => absurd z q) fun z => by omega) (fun _ => rfl)) fun w2 hok => by
          simp (decide := true) only [BmM_cover, nI_1, EV, EW, CT, ev_o, ev_is, ev_gd, List.length_cons, List.length_nil, Nat.reduceLT, Nat.reduceAdd, Nat.reduceEqDiff, Nat.reduceLeDiff, Int32.reduceLT, Int32.reduceLE, reduceIte, true_and, and_true, true_or, or_true, not_true_eq_false, not_false_eq_true, false_imp_iff, true_imp_iff, implies_true]
          exact hok
      · have KD : H.2.1 x = 1 := by rw [d1, kk]; rfl
        simp (decide := true) only [KD, BmM_cover, BSM, k45, k56, k72, h70, E, v1, vx, n2, e4, F, nI_clamp (n := i) (by omega), nI_clamp (n := x) (by omega), EV, EW, CT, ev_o, ev_is, ev_gd, List.length_cons, List.length_nil, Nat.reduceLT, Nat.reduceAdd, Nat.reduceEqDiff, Nat.reduceLeDiff, Int32.reduceLT, Int32.reduceLE, reduceIte, true_and, and_true, true_or, or_true, not_true_eq_false, not_false_eq_true, false_imp_iff, true_imp_iff, implies_true]
        exact cx_CS_then (go 0 (fun h => h.elim (fun z => absurd z q) fun z => by omega) (fun _ => rfl)) fun w2 hok => by
          simp (decide := true) only [BmM_cover, nI_1, EV, EW, CT, ev_o, ev_is, ev_gd, List.length_cons, List.length_nil, Nat.reduceLT, Nat.reduceAdd, Nat.reduceEqDiff, Nat.reduceLeDiff, Int32.reduceLT, Int32.reduceLE, reduceIte, true_and, and_true, true_or, or_true, not_true_eq_false, not_false_eq_true, false_imp_iff, true_imp_iff, implies_true]
          exact hok
      · have KD : H.2.1 x = 3 := by rw [d1, kk]; rfl
        simp (decide := true) only [KD, BmM_cover, BSM, k45, k56, k72, h70, E, v1, vx, n2, e4, F, nI_clamp (n := i) (by omega), nI_clamp (n := x) (by omega), EV, EW, CT, ev_o, ev_is, ev_gd, List.length_cons, List.length_nil, Nat.reduceLT, Nat.reduceAdd, Nat.reduceEqDiff, Nat.reduceLeDiff, Int32.reduceLT, Int32.reduceLE, reduceIte, true_and, and_true, true_or, or_true, not_true_eq_false, not_false_eq_true, false_imp_iff, true_imp_iff, implies_true]
        exact cx_CS_then (go 1 (fun _ => rfl) (fun h => absurd (.inr (by omega)) h)) fun w2 hok => by
          simp (decide := true) only [BmM_cover, nI_1, EV, EW, CT, ev_o, ev_is, ev_gd, List.length_cons, List.length_nil, Nat.reduceLT, Nat.reduceAdd, Nat.reduceEqDiff, Nat.reduceLeDiff, Int32.reduceLT, Int32.reduceLE, reduceIte, true_and, and_true, true_or, or_true, not_true_eq_false, not_false_eq_true, false_imp_iff, true_imp_iff, implies_true]
          exact hok
      · have KD : H.2.1 x = 2 := by rw [d1, kk]; rfl
        simp (decide := true) only [KD, BmM_cover, BSM, k45, k56, k72, h70, E, v1, vx, n2, e4, F, nI_clamp (n := i) (by omega), nI_clamp (n := x) (by omega), EV, EW, CT, ev_o, ev_is, ev_gd, List.length_cons, List.length_nil, Nat.reduceLT, Nat.reduceAdd, Nat.reduceEqDiff, Nat.reduceLeDiff, Int32.reduceLT, Int32.reduceLE, reduceIte, true_and, and_true, true_or, or_true, not_true_eq_false, not_false_eq_true, false_imp_iff, true_imp_iff, implies_true]
        exact cx_CS_then (go 1 (fun _ => rfl) (fun h => absurd (.inr (by omega)) h)) fun w2 hok => by
          simp (decide := true) only [BmM_cover, nI_1, EV, EW, CT, ev_o, ev_is, ev_gd, List.length_cons, List.length_nil, Nat.reduceLT, Nat.reduceAdd, Nat.reduceEqDiff, Nat.reduceLeDiff, Int32.reduceLT, Int32.reduceLE, reduceIte, true_and, and_true, true_or, or_true, not_true_eq_false, not_false_eq_true, false_imp_iff, true_imp_iff, implies_true]
          exact hok
