/-! Measuring: the reference's side, stages. Own work. -/
abbrev stC (F S : Nat → Nat → Nat) (k u v : Nat) : Prop := F u k < 1000000 ∧ F k v < 1000000 ∧ (F u k + F k v < F u v ∨ F u k + F k v = F u v ∧ S u v < S u k + S k v)
def stF (F S : Nat → Nat → Nat) (k u v : Nat) : Nat := if stC F S k u v then F u k + F k v else F u v
def stS (F S : Nat → Nat → Nat) (k u v : Nat) : Nat := if stC F S k u v then S u k + S k v else S u v
def ptF (F S : Nat → Nat → Nat) (k a b u v : Nat) : Nat := if u < a ∨ (u = a ∧ v < b) then stF F S k u v else F u v
def ptS (F S : Nat → Nat → Nat) (k a b u v : Nat) : Nat := if u < a ∨ (u = a ∧ v < b) then stS F S k u v else S u v
theorem stC_col {F S : Nat → Nat → Nat} {k u : Nat} (h : F k k = 0 ∧ S k k = 0) : ¬ stC F S k u k := fun z => by
  obtain ⟨_, _, c⟩ := z
  omega
theorem stC_row {F S : Nat → Nat → Nat} {k v : Nat} (h : F k k = 0 ∧ S k k = 0) : ¬ stC F S k k v := fun z => by
  obtain ⟨_, _, c⟩ := z
  omega
theorem pt_no {F S : Nat → Nat → Nat} {k a b u v : Nat} (h : ¬ stC F S k u v) : ptF F S k a b u v = F u v ∧ ptS F S k a b u v = S u v := by
  unfold ptF ptS stF stS
  rw [if_neg h, if_neg h]
  exact ⟨by split <;> rfl, by split <;> rfl⟩
theorem pt_at {F S : Nat → Nat → Nat} {k a b : Nat} : ptF F S k a b a b = F a b ∧ ptS F S k a b a b = S a b := by
  unfold ptF ptS
  exact ⟨if_neg (by omega), if_neg (by omega)⟩
theorem pt_put {F S : Nat → Nat → Nat} {k a b : Nat} (h : stC F S k a b) (u v : Nat) : ptF F S k a (b + 1) u v = putM (ptF F S k a b) a b (F a k + F k b) u v ∧ ptS F S k a (b + 1) u v = putM (ptS F S k a b) a b (S a k + S k b) u v := by
  by_cases e : u = a ∧ v = b
  · obtain ⟨rfl, rfl⟩ := e
    rw [putM_s, putM_s]
    unfold ptF ptS stF stS
    rw [if_pos (by omega), if_pos h, if_pos (by omega), if_pos h]
    exact ⟨rfl, rfl⟩
  · rw [putM_n _ e, putM_n _ e]
    unfold ptF ptS
    by_cases c : u < a ∨ (u = a ∧ v < b)
    · rw [if_pos c, if_pos c, if_pos (by omega), if_pos (by omega)]; exact ⟨rfl, rfl⟩
    · rw [if_neg c, if_neg c, if_neg (by omega), if_neg (by omega)]; exact ⟨rfl, rfl⟩
theorem pt_keep {F S : Nat → Nat → Nat} {k a b : Nat} (h : ¬ stC F S k a b) (u v : Nat) : ptF F S k a (b + 1) u v = ptF F S k a b u v ∧ ptS F S k a (b + 1) u v = ptS F S k a b u v := by
  by_cases e : u = a ∧ v = b
  · obtain ⟨rfl, rfl⟩ := e
    rw [(pt_no h).1, (pt_no h).2, (pt_no h).1, (pt_no h).2]; exact ⟨rfl, rfl⟩
  · unfold ptF ptS
    by_cases c : u < a ∨ (u = a ∧ v < b)
    · rw [if_pos c, if_pos c, if_pos (by omega), if_pos (by omega)]; exact ⟨rfl, rfl⟩
    · rw [if_neg c, if_neg c, if_neg (by omega), if_neg (by omega)]; exact ⟨rfl, rfl⟩
theorem pt_next {F S : Nat → Nat → Nat} {k a b n : Nat} (h : b = n ∨ ¬ F a k < 1000000) (u v : Nat) (hv : v < n) : ptF F S k (a + 1) 0 u v = ptF F S k a b u v ∧ ptS F S k (a + 1) 0 u v = ptS F S k a b u v := by
  by_cases e : u = a
  · subst e
    rcases h with h | h
    · unfold ptF ptS
      rw [if_pos (by omega), if_pos (by omega), if_pos (by omega), if_pos (by omega)]; exact ⟨rfl, rfl⟩
    · have hc : ¬ stC F S k u v := fun z => h z.1
      rw [(pt_no hc).1, (pt_no hc).2, (pt_no hc).1, (pt_no hc).2]; exact ⟨rfl, rfl⟩
  · unfold ptF ptS
    by_cases c : u < a ∨ (u = a ∧ v < b)
    · rw [if_pos c, if_pos c, if_pos (by omega), if_pos (by omega)]; exact ⟨rfl, rfl⟩
    · rw [if_neg c, if_neg c, if_neg (by omega), if_neg (by omega)]; exact ⟨rfl, rfl⟩
theorem pt_first {F S : Nat → Nat → Nat} {k : Nat} (u v : Nat) : ptF F S k 0 0 u v = F u v ∧ ptS F S k 0 0 u v = S u v := by
  unfold ptF ptS
  exact ⟨if_neg (by omega), if_neg (by omega)⟩
theorem pt_all {F S : Nat → Nat → Nat} {k n : Nat} (u v : Nat) (hu : u < n) : ptF F S k n 0 u v = stF F S k u v ∧ ptS F S k n 0 u v = stS F S k u v := by
  unfold ptF ptS
  exact ⟨if_pos (by omega), if_pos (by omega)⟩
theorem st_stage {E : Nat → Nat → Nat → Prop} {d : Nat → Nat} {n : Nat} {F S : Nat → Nat → Nat} {k : Nat} (hE : rt_E E d n) (h : rt_FW E d n F S k) (hk : k < n) : rt_FW E d n (stF F S k) (stS F S k) (k + 1) := by
  refine rt_stage hE h hk fun u v hu hv => ?_
  by_cases c : stC F S k u v
  · exact .inl ⟨c, if_pos c, if_pos c⟩
  · exact .inr ⟨c, if_neg c, if_neg c⟩
set_option maxHeartbeats 16000000 in
theorem mme_in {w : cx_W} {n : Nat} {gt : Nat → Prop} {d : Nat → Nat} {E : Nat → Nat → Nat → Prop} {F S : Nat → Nat → Nat} {x0 x1 x2 x4 x5 x6 x7 x8 x9 : Int32} {k a : Nat} {Q : cx_Q} (hn : n ≤ 48) (h45 : w 45 = oM x0 x1 x2 (nI n) x4 x5 x6 x7 x8 x9) (hE : rt_E E d n) (hF : rt_FW E d n F S k) (hb : ∀ u v, u < n → v < n → F u v ≤ 1000000) (hk : k < n) (ha : a < n)
    (hQ : ∀ (w1 : cx_W) (fr sl : Nat → Int32) (l3 : Option Value), w1 79 = ai 2304 fr → w1 80 = ai 2304 sl → (∀ k, frM k → w1 k = w k) → MxR n fr sl (ptF F S k (a + 1) 0) (ptS F S k (a + 1) 0) → cx_OK none mM_measure 10 0 0 Q 124 [some (.ref 45), some (.int (nI k)), some (.int (nI (a + 1))), l3] [] w1 (87, 0, 0)) :
    ∀ (m b : Nat) (w1 : cx_W) (fr sl : Nat → Int32), b + m = n → w1 79 = ai 2304 fr → w1 80 = ai 2304 sl → (∀ k, frM k → w1 k = w k) → MxR n fr sl (ptF F S k a b) (ptS F S k a b) →
    cx_OK none mM_measure 10 0 0 Q 143 [some (.ref 45), some (.int (nI k)), some (.int (nI a)), some (.int (nI b))] [] w1 (87, 0, 0) := by
  have kk := hF.2.1 k hk
  have bd := fun {u v : Nat} (hu : u < n) (hv : v < n) (hf : F u v < 1000000) => rt_FW_bd hE hF hu hv hf
  intro m
  induction m with
  | zero =>
    intro b w1 fr sl hb2 h79 h80 hk2 hM
    have E1 := leT (a := n) (b := b) (by omega) (by omega)
    have k45 := (hk2 45 (by decide)).trans h45
    refine cx_run 140 mM_measure_mo ?_
    simp (decide := true) only [BmM_measure, BSM, k45, E1, nI_1, EV, EW, CT, ev_o, ev_is, ev_gd, List.length_cons, List.length_nil, Nat.reduceLT, Nat.reduceAdd, Nat.reduceEqDiff, Nat.reduceLeDiff, Int32.reduceLT, Int32.reduceLE, reduceIte, true_and, and_true, true_or, or_true, not_true_eq_false, not_false_eq_true, false_imp_iff, true_imp_iff, implies_true]
    exact hQ w1 fr sl _ h79 h80 hk2 (hM.congr fun u v _ hv => pt_next (.inl (by omega)) u v hv)
  | succ m ih =>
    intro b w1 fr sl hb2 h79 h80 hk2 hM
    have E1 := leF (a := n) (b := b) (by omega) (by omega)
    have k45 := (hk2 45 (by decide)).trans h45
    have hbn : b < n := by omega
    obtain ⟨p1, p2, p3, p4⟩ := hM a k ha hk
    rw [(pt_no (stC_col kk)).1] at p1 p3
    rw [(pt_no (stC_col kk)).2] at p2 p4
    obtain ⟨q1, q2, q3, q4⟩ := hM k b hk hbn
    rw [(pt_no (stC_row kk)).1] at q1 q3
    rw [(pt_no (stC_row kk)).2] at q2 q4
    obtain ⟨r1, r2, r3, r4⟩ := hM a b ha hbn
    rw [pt_at.1] at r1 r3
    rw [pt_at.2] at r2 r4
    have va : vp_in (nI (48 * a + k)) 2304 := nI_in (by omega) (by decide)
    have vb : vp_in (nI (48 * k + b)) 2304 := nI_in (by omega) (by decide)
    have vc : vp_in (nI (48 * a + b)) 2304 := nI_in (by omega) (by decide)
    have L1 := lek (a := F a k) (c := 1000000) (x := 1000000) rfl (by omega) (by decide)
    have L2 := lek (a := F k b) (c := 1000000) (x := 1000000) rfl (by omega) (by decide)
    refine cx_run 140 mM_measure_mo ?_
    by_cases c1 : F a k < 1000000
    · have L1' : (1000000 ≤ F a k) = False := eq_false (by omega)
      have ⟨B1, B2⟩ := bd ha hk c1
      by_cases c2 : F k b < 1000000
      · have L2' : (1000000 ≤ F k b) = False := eq_false (by omega)
        have ⟨B3, B4⟩ := bd hk hbn c2
        have put : stC F S k a b → cx_OK none mM_measure 10 0 0 Q 143 [some (.ref 45), some (.int (nI k)), some (.int (nI a)), some (.int (nI (b + 1)))] [] (cx_up (cx_up w1 79 (ai 2304 (upd fr (48 * a + b) (nI (F a k + F k b))))) 80 (ai 2304 (upd sl (48 * a + b) (nI (S a k + S k b))))) (87, 0, 0) := fun hc => by
          exact ih (b + 1) _ _ _ (by omega) (by simp only [cx_up, Nat.reduceEqDiff, reduceIte]) (by simp only [cx_up, Nat.reduceEqDiff, reduceIte]) (fun k z => by rw [← hk2 k z]; simp (disch := omega) only [cx_up, if_neg]) ((hM.put hn hbn (by omega) (by omega)).congr fun u v _ _ => pt_put hc u v)
        have keep : ¬ stC F S k a b → cx_OK none mM_measure 10 0 0 Q 143 [some (.ref 45), some (.int (nI k)), some (.int (nI a)), some (.int (nI (b + 1)))] [] w1 (87, 0, 0) := fun hc => by
          exact ih (b + 1) w1 fr sl (by omega) h79 h80 hk2 (hM.congr fun u v _ _ => pt_keep hc u v)
        by_cases b1 : F a k + F k b < F a b
        · have T1 := ltT (a := F a k + F k b) (b := F a b) b1 (by omega)
          simp (decide := true) only [BmM_measure, BSM, k45, h79, h80, E1, va, vb, vc, p1, p2, q1, q2, r1, r2, L1, L2, L1', L2', T1, mu48, nI_add, nI_clamp (n := 48 * a + k) (by omega), nI_clamp (n := 48 * k + b) (by omega), nI_clamp (n := 48 * a + b) (by omega), nI_1, EV, EW, CT, ev_o, ev_is, ev_gd, List.length_cons, List.length_nil, Nat.reduceLT, Nat.reduceAdd, Nat.reduceEqDiff, Nat.reduceLeDiff, Int32.reduceLT, Int32.reduceLE, reduceIte, true_and, and_true, true_or, or_true, not_true_eq_false, not_false_eq_true, false_imp_iff, true_imp_iff, implies_true]
          exact put ⟨c1, c2, .inl b1⟩
        · have T1 := ltF (a := F a k + F k b) (b := F a b) (by omega) (by omega)
          by_cases b2 : F a k + F k b = F a b
          · have T2 : (nI (F a k + F k b) = nI (F a b)) = True := eq_true (by rw [b2])
            by_cases b3 : S a b < S a k + S k b
            · have T3 := leF (a := S a k + S k b) (b := S a b) b3 (by omega)
              simp (decide := true) only [BmM_measure, BSM, k45, h79, h80, E1, va, vb, vc, p1, p2, q1, q2, r1, r2, L1, L2, L1', L2', T1, T2, T3, mu48, nI_add, nI_clamp (n := 48 * a + k) (by omega), nI_clamp (n := 48 * k + b) (by omega), nI_clamp (n := 48 * a + b) (by omega), nI_1, EV, EW, CT, ev_o, ev_is, ev_gd, List.length_cons, List.length_nil, Nat.reduceLT, Nat.reduceAdd, Nat.reduceEqDiff, Nat.reduceLeDiff, Int32.reduceLT, Int32.reduceLE, reduceIte, true_and, and_true, true_or, or_true, not_true_eq_false, not_false_eq_true, false_imp_iff, true_imp_iff, implies_true]
              exact put ⟨c1, c2, .inr ⟨b2, b3⟩⟩
            · have T3 := leT (a := S a k + S k b) (b := S a b) (by omega) (by omega)
              simp (decide := true) only [BmM_measure, BSM, k45, h79, h80, E1, va, vb, vc, p1, p2, q1, q2, r1, r2, L1, L2, L1', L2', T1, T2, T3, mu48, nI_add, nI_clamp (n := 48 * a + k) (by omega), nI_clamp (n := 48 * k + b) (by omega), nI_clamp (n := 48 * a + b) (by omega), nI_1, EV, EW, CT, ev_o, ev_is, ev_gd, List.length_cons, List.length_nil, Nat.reduceLT, Nat.reduceAdd, Nat.reduceEqDiff, Nat.reduceLeDiff, Int32.reduceLT, Int32.reduceLE, reduceIte, true_and, and_true, true_or, or_true, not_true_eq_false, not_false_eq_true, false_imp_iff, true_imp_iff, implies_true]
              exact keep (fun z => by have := z.2.2; omega)
          · have T2 : (nI (F a k + F k b) = nI (F a b)) = False := (eqN (by omega) (by omega)).trans (eq_false b2)
            simp (decide := true) only [BmM_measure, BSM, k45, h79, h80, E1, va, vb, vc, p1, p2, q1, q2, r1, r2, L1, L2, L1', L2', T1, T2, mu48, nI_add, nI_clamp (n := 48 * a + k) (by omega), nI_clamp (n := 48 * k + b) (by omega), nI_clamp (n := 48 * a + b) (by omega), nI_1, EV, EW, CT, ev_o, ev_is, ev_gd, List.length_cons, List.length_nil, Nat.reduceLT, Nat.reduceAdd, Nat.reduceEqDiff, Nat.reduceLeDiff, Int32.reduceLT, Int32.reduceLE, reduceIte, true_and, and_true, true_or, or_true, not_true_eq_false, not_false_eq_true, false_imp_iff, true_imp_iff, implies_true]
            exact keep (fun z => by have := z.2.2; omega)
      · have L2' : (1000000 ≤ F k b) = True := eq_true (by omega)
        simp (decide := true) only [BmM_measure, BSM, k45, h79, h80, E1, va, vb, p1, q1, L1, L2, L1', L2', mu48, nI_add, nI_clamp (n := 48 * a + k) (by omega), nI_clamp (n := 48 * k + b) (by omega), nI_1, EV, EW, CT, ev_o, ev_is, ev_gd, List.length_cons, List.length_nil, Nat.reduceLT, Nat.reduceAdd, Nat.reduceEqDiff, Nat.reduceLeDiff, Int32.reduceLT, Int32.reduceLE, reduceIte, true_and, and_true, true_or, or_true, not_true_eq_false, not_false_eq_true, false_imp_iff, true_imp_iff, implies_true]
        exact ih (b + 1) w1 fr sl (by omega) h79 h80 hk2 (hM.congr fun u v _ _ => pt_keep (fun z => c2 z.2.1) u v)
    · have L1' : (1000000 ≤ F a k) = True := eq_true (by omega)
      simp (decide := true) only [BmM_measure, BSM, k45, h79, h80, E1, va, p1, L1, L1', mu48, nI_add, nI_clamp (n := 48 * a + k) (by omega), nI_1, EV, EW, CT, ev_o, ev_is, ev_gd, List.length_cons, List.length_nil, Nat.reduceLT, Nat.reduceAdd, Nat.reduceEqDiff, Nat.reduceLeDiff, Int32.reduceLT, Int32.reduceLE, reduceIte, true_and, and_true, true_or, or_true, not_true_eq_false, not_false_eq_true, false_imp_iff, true_imp_iff, implies_true]
      exact hQ w1 fr sl _ h79 h80 hk2 (hM.congr fun u v _ hv => pt_next (.inr c1) u v hv)
set_option maxHeartbeats 16000000 in
theorem mme_mid {w : cx_W} {n : Nat} {gt : Nat → Prop} {d : Nat → Nat} {E : Nat → Nat → Nat → Prop} {F S : Nat → Nat → Nat} {gr : Nat → Int32} {x0 x1 x2 x4 x5 x6 x7 x8 x9 : Int32} {k : Nat} {Q : cx_Q} (hn : n ≤ 48) (h45 : w 45 = oM x0 x1 x2 (nI n) x4 x5 x6 x7 x8 x9) (h70 : w 70 = az 48 gr) (hB : BR 48 gr gt) (hH : rt_H E gt d n) (hF : rt_FW E d n F S k) (hb : ∀ u v, u < n → v < n → F u v ≤ 1000000) (hk : k < n) (hg : gt k)
    (hQ : ∀ (w1 : cx_W) (fr sl : Nat → Int32) (l2 l3 : Option Value), w1 79 = ai 2304 fr → w1 80 = ai 2304 sl → (∀ k, frM k → w1 k = w k) → MxR n fr sl (stF F S k) (stS F S k) → cx_OK none mM_measure 10 0 0 Q 114 [some (.ref 45), some (.int (nI (k + 1))), l2, l3] [] w1 (87, 0, 0)) :
    ∀ (m a : Nat) (w1 : cx_W) (fr sl : Nat → Int32) (l3 : Option Value), a + m = n → w1 79 = ai 2304 fr → w1 80 = ai 2304 sl → (∀ k, frM k → w1 k = w k) → MxR n fr sl (ptF F S k a 0) (ptS F S k a 0) →
    cx_OK none mM_measure 10 0 0 Q 124 [some (.ref 45), some (.int (nI k)), some (.int (nI a)), l3] [] w1 (87, 0, 0) := by
  have B1 : gr k = 1 := (hB _ (by omega)).1 hg
  have vk : vp_in (nI k) 48 := nI_in (by omega) (by decide)
  intro m
  induction m with
  | zero =>
    intro a w1 fr sl l3 ha h79 h80 hk2 hM
    have E1 := leT (a := n) (b := a) (by omega) (by omega)
    have k45 := (hk2 45 (by decide)).trans h45
    have e : a = n := by omega
    subst e
    refine cx_run 140 mM_measure_mo ?_
    simp (decide := true) only [BmM_measure, BSM, k45, E1, nI_1, EV, EW, CT, ev_o, ev_is, ev_gd, List.length_cons, List.length_nil, Nat.reduceLT, Nat.reduceAdd, Nat.reduceEqDiff, Nat.reduceLeDiff, Int32.reduceLT, Int32.reduceLE, reduceIte, true_and, and_true, true_or, or_true, not_true_eq_false, not_false_eq_true, false_imp_iff, true_imp_iff, implies_true]
    exact hQ w1 fr sl _ _ h79 h80 hk2 (hM.congr fun u v hu _ => ⟨(pt_all u v hu).1.symm, (pt_all u v hu).2.symm⟩)
  | succ m ih =>
    intro a w1 fr sl l3 ha h79 h80 hk2 hM
    have E1 := leF (a := n) (b := a) (by omega) (by omega)
    have k45 := (hk2 45 (by decide)).trans h45
    have k70 := (hk2 70 (by decide)).trans h70
    refine cx_run 140 mM_measure_mo ?_
    simp (decide := true) only [BmM_measure, BSM, k45, k70, E1, vk, B1, nI_clamp (n := k) (by omega), EV, EW, CT, ev_o, ev_is, ev_gd, List.length_cons, List.length_nil, Nat.reduceLT, Nat.reduceAdd, Nat.reduceEqDiff, Nat.reduceLeDiff, Int32.reduceLT, Int32.reduceLE, reduceIte, true_and, and_true, true_or, or_true, not_true_eq_false, not_false_eq_true, false_imp_iff, true_imp_iff, implies_true]
    exact mme_in (w := w) (gt := gt) hn h45 hH.1 hF hb hk (by omega) (fun w2 fr2 sl2 l3 p q r s => ih (a + 1) w2 fr2 sl2 l3 (by omega) p q r s) n 0 w1 fr sl (by omega) h79 h80 hk2 hM
set_option maxHeartbeats 16000000 in
theorem mme_out {w : cx_W} {n : Nat} {gt : Nat → Prop} {d : Nat → Nat} {E : Nat → Nat → Nat → Prop} {gr : Nat → Int32} {x0 x1 x2 x4 x5 x6 x7 x8 x9 : Int32} {Q : cx_Q} (hn : n ≤ 48) (h45 : w 45 = oM x0 x1 x2 (nI n) x4 x5 x6 x7 x8 x9) (h70 : w 70 = az 48 gr) (hB : BR 48 gr gt) (hH : rt_H E gt d n)
    (hQ : ∀ (w1 : cx_W) (fr sl : Nat → Int32) (F S : Nat → Nat → Nat) (l2 l3 : Option Value), w1 79 = ai 2304 fr → w1 80 = ai 2304 sl → (∀ k, frM k → w1 k = w k) → MxR n fr sl F S → rt_FW E d n F S n → cx_OK none mM_measure 10 0 0 Q 264 [some (.ref 45), some (.int (nI 0)), l2, l3] [] (cx_up w1 45 (oM x0 x1 x2 (nI n) x4 x5 x6 x7 0 x9)) (87, 0, 0)) :
    ∀ (m k : Nat) (w1 : cx_W) (fr sl : Nat → Int32) (F S : Nat → Nat → Nat) (l2 l3 : Option Value), k + m = n → w1 79 = ai 2304 fr → w1 80 = ai 2304 sl → (∀ k, frM k → w1 k = w k) → MxR n fr sl F S → rt_FW E d n F S k →
    cx_OK none mM_measure 10 0 0 Q 114 [some (.ref 45), some (.int (nI k)), l2, l3] [] w1 (87, 0, 0) := by
  intro m
  induction m with
  | zero =>
    intro k w1 fr sl F S l2 l3 hk h79 h80 hk2 hM hF
    have E1 := leT (a := n) (b := k) (by omega) (by omega)
    have k45 := (hk2 45 (by decide)).trans h45
    have e : k = n := by omega
    subst e
    refine cx_run 140 mM_measure_mo ?_
    simp (decide := true) only [BmM_measure, BSM, k45, E1, nI_1, EV, EW, CT, ev_o, ev_is, ev_gd, List.length_cons, List.length_nil, Nat.reduceLT, Nat.reduceAdd, Nat.reduceEqDiff, Nat.reduceLeDiff, Int32.reduceLT, Int32.reduceLE, reduceIte, true_and, and_true, true_or, or_true, not_true_eq_false, not_false_eq_true, false_imp_iff, true_imp_iff, implies_true]
    exact hQ w1 fr sl F S _ _ h79 h80 hk2 hM hF
  | succ m ih =>
    intro k w1 fr sl F S l2 l3 hk h79 h80 hk2 hM hF
    have E1 := leF (a := n) (b := k) (by omega) (by omega)
    have k45 := (hk2 45 (by decide)).trans h45
    have k70 := (hk2 70 (by decide)).trans h70
    refine cx_run 140 mM_measure_mo ?_
    simp (decide := true) only [BmM_measure, BSM, k45, E1, EV, EW, CT, ev_o, ev_is, ev_gd, List.length_cons, List.length_nil, Nat.reduceLT, Nat.reduceAdd, Nat.reduceEqDiff, Nat.reduceLeDiff, Int32.reduceLT, Int32.reduceLE, reduceIte, true_and, and_true, true_or, or_true, not_true_eq_false, not_false_eq_true, false_imp_iff, true_imp_iff, implies_true]
    by_cases hg : gt k
    · exact mme_mid (w := w) hn h45 h70 hB hH hF (fun u v hu hv => (hM u v hu hv).2.2.1) (by omega) hg (fun w2 fr2 sl2 l2 l3 p q r s => ih (k + 1) w2 fr2 sl2 _ _ l2 l3 (by omega) p q r s (st_stage hH.1 hF (by omega))) n 0 w1 fr sl _ (by omega) h79 h80 hk2 (hM.congr fun u v _ _ => pt_first u v)
    · have B1 : gr k = 0 := (hB _ (by omega)).2 hg
      have vk : vp_in (nI k) 48 := nI_in (by omega) (by decide)
      have E2 := leF (a := n) (b := 0) (by omega) (by omega)
      refine cx_run 140 mM_measure_mo ?_
      have E3 : (nI n ≤ 0) = False := E2
      simp (decide := true) only [BmM_measure, BSM, k45, k70, E2, E3, vk, B1, nI_clamp (n := k) (by omega), nI_1, EV, EW, CT, ev_o, ev_is, ev_gd, List.length_cons, List.length_nil, Nat.reduceLT, Nat.reduceAdd, Nat.reduceEqDiff, Nat.reduceLeDiff, Int32.reduceLT, Int32.reduceLE, reduceIte, true_and, and_true, true_or, or_true, not_true_eq_false, not_false_eq_true, false_imp_iff, true_imp_iff, implies_true]
      exact ih (k + 1) w1 fr sl F S _ _ (by omega) h79 h80 hk2 hM (rt_skip hH hF (by omega) hg)
