/-! Filling a row; who reads live nodes. Own work. -/
set_option maxHeartbeats 4000000 in
theorem fill_loop {w : cx_W} {q n : Nat} {v : Int32} {f : Nat → Int32} {dd : Nat} (hq : q < 87) (hn : n ≤ 2304) : ∀ (m i : Nat) (w1 : cx_W) (g : Nat → Int32), i + m = n → w1 q = ai n g → (∀ k, ¬ k = q → w1 k = w k) → (∀ j, g j = if j < i then v else f j) →
    cx_OK none mArr_fill dd 0 0 (fun r w2 _ => r = none ∧ w2 q = ai n (fun j => if j < n then v else f j) ∧ ∀ k, ¬ k = q → w2 k = w k) 5 [some (.ref q), some (.int v), some (.int (nI i)), some (.int (nI n))] [] w1 (87, 0, 0) := by
  intro m
  induction m with
  | zero =>
    intro i w1 g hi h1 hk hg
    have E := leT (a := n) (b := i) (by omega) (by omega)
    refine cx_run 60 mArr_fill_mo ?_
    simp (decide := true) only [BmArr_fill, E, EV, EW, CT, ev_o, ev_is, ev_gd, List.length_cons, List.length_nil, Nat.reduceLT, Nat.reduceAdd, Nat.reduceEqDiff, Nat.reduceLeDiff, Int32.reduceLT, Int32.reduceLE, reduceIte, true_and, and_true, true_or, or_true, not_true_eq_false, not_false_eq_true, false_imp_iff, true_imp_iff, implies_true]
    refine ⟨?_, hk⟩
    rw [h1]
    have : g = fun j => if j < n then v else f j := funext fun j => by rw [hg j, show i = n by omega]
    rw [this]
  | succ m ih =>
    intro i w1 g hi h1 hk hg
    have E := leF (a := n) (b := i) (by omega) (by omega)
    have v1 : vp_in (nI i) n := nI_in (by omega) (by omega)
    refine cx_run 60 mArr_fill_mo ?_
    simp (decide := true) only [BmArr_fill, E, h1, hq, v1, nI_clamp (n := i) (by omega), nI_1, EV, EW, CT, ev_o, ev_is, ev_gd, List.length_cons, List.length_nil, Nat.reduceLT, Nat.reduceAdd, Nat.reduceEqDiff, Nat.reduceLeDiff, Int32.reduceLT, Int32.reduceLE, reduceIte, true_and, and_true, true_or, or_true, not_true_eq_false, not_false_eq_true, false_imp_iff, true_imp_iff, implies_true]
    refine ih (i + 1) _ (upd g i v) (by omega) (by simp only [cx_up, reduceIte]) (fun k hk2 => by rw [← hk k hk2]; simp only [cx_up, if_neg hk2]) (fun j => ?_)
    by_cases e : j = i
    · rw [e, pk_us, if_pos (by omega)]
    · rw [pk_un e, hg j]
      by_cases e2 : j < i
      · rw [if_pos e2, if_pos (by omega)]
      · rw [if_neg e2, if_neg (by omega)]
set_option maxHeartbeats 4000000 in
theorem c_Arr_fill {w : cx_W} {q n : Nat} {v : Int32} {f : Nat → Int32} {dd : Nat} (hq : q < 87) (hn : n ≤ 2304) (h : w q = ai n f) :
    cx_MC mArr_fill dd 0 0 [.ref q, .int v] w 87 (fun r w2 => r = none ∧ w2 q = ai n (fun j => if j < n then v else f j) ∧ ∀ k, ¬ k = q → w2 k = w k) := by
  refine cx_met 60 mArr_fill_ok rfl ?_
  show cx_vc 60 none mArr_fill dd 0 0 _ _ 0 [some (.ref q), some (.int v), none, none] [] w (87, 0, 0)
  have hq6 : (q = 1000000) = False := eq_false (by omega)
  simp (decide := true) only [BmArr_fill, h, hq, hq6, EV, EW, CT, ev_o, ev_is, ev_gd, List.length_cons, List.length_nil, Nat.reduceLT, Nat.reduceAdd, Nat.reduceEqDiff, Nat.reduceLeDiff, Int32.reduceLT, Int32.reduceLE, reduceIte, true_and, and_true, true_or, or_true, not_true_eq_false, not_false_eq_true, false_imp_iff, true_imp_iff, implies_true]
  exact fill_loop (v := v) (f := f) hq hn n 0 w f (by omega) h (fun _ _ => rfl) (fun j => by rw [if_neg (by omega)])
theorem inc_at {g : Nat → Int32} {u : Nat → Nat} {x N : Nat} (hg : ∀ j, j < N → g j = nI (u j)) (hx : x < N) : ∀ j, j < N → upd g x (g x + 1) j = nI (u j + if x = j then 1 else 0) := by
  intro j hj
  by_cases e : j = x
  · subst e; rw [pk_us, if_pos rfl, hg j hj, nI_1]
  · rw [pk_un e, if_neg (fun h => e h.symm)]; exact hg j hj
set_option maxHeartbeats 8000000 in
theorem clu_loop {w : cx_W} {G : Gr} {kd px py : Nat → Nat} {need : Nat → Bool} {fn : Nat → Int32} {dd : Nat} (hG : GW w G) (hn : G.1 ≤ 48) (hK : GK G kd px py) (h20 : ∃ x, w 20 = oCo x) (h21 : w 21 = az 48 fn) (hneed : BR 48 fn (fun j => need j = true)) :
    ∀ (m : Nat) (w1 : cx_W) (g : Nat → Int32), m ≤ G.1 → w1 22 = ai 48 g → (∀ j, j < 48 → g j = nI (usF G.1 kd px py need (G.1 - m) j)) → (∀ k, ¬ k = 22 → w1 k = w k) →
    cx_OK none mCo_countLiveUsers (dd + 2) 0 0 (fun r w2 _ => r = none ∧ (∃ g, w2 22 = ai 48 g ∧ ∀ j, j < 48 → g j = nI (usF G.1 kd px py need G.1 j)) ∧ ∀ k, ¬ k = 22 → w2 k = w k) 18 [some (.ref 20), some (.int (nI m - 1))] [] w1 (87, 0, 0) := by
  obtain ⟨x, h20⟩ := h20
  obtain ⟨g1, g2, g3, g4⟩ := hG
  intro m
  induction m with
  | zero =>
    intro w1 g hm h22 hg hk
    refine cx_run 60 mCo_countLiveUsers_mo ?_
    simp (decide := true) only [BmCo_countLiveUsers, nI_0, EV, EW, CT, ev_o, ev_is, ev_gd, List.length_cons, List.length_nil, Nat.reduceLT, Nat.reduceAdd, Nat.reduceEqDiff, Nat.reduceLeDiff, Int32.reduceLT, Int32.reduceLE, reduceIte, true_and, and_true, true_or, or_true, not_true_eq_false, not_false_eq_true, false_imp_iff, true_imp_iff, implies_true]
    exact ⟨⟨g, h22, fun j hj => by rw [hg j hj, Nat.sub_zero]⟩, hk⟩
  | succ m ih =>
    intro w1 g hm h22 hg hk
    have k20 := (hk 20 (by decide)).trans h20
    have k21 := (hk 21 (by decide)).trans h21
    have k1 := (hk 1 (by decide)).trans g1
    have k2 := (hk 2 (by decide)).trans g2
    have k3 := (hk 3 (by decide)).trans g3
    have k4 := (hk 4 (by decide)).trans g4
    have ⟨d1, d2, d3, d4⟩ := hK m (by omega)
    have v1 : vp_in (nI m) 48 := nI_in (by omega) (by decide)
    have hlt : ¬ nI m < 0 := nI_pos (by omega)
    have ub := usF_le G.1 kd px py need (G.1 - (m + 1)) m
    have hgm := hg m (by omega)
    have eu : G.1 - 1 - (G.1 - (m + 1)) = m := by omega
    have es : G.1 - m = (G.1 - (m + 1)) + 1 := by omega
    refine cx_run 100 mCo_countLiveUsers_mo ?_
    rw [nI_pred]
    have nx : ∀ (w2 : cx_W) (g2 : Nat → Int32), w2 22 = ai 48 g2 → (∀ j, j < 48 → g2 j = nI (usF G.1 kd px py need (G.1 - m) j)) → (∀ k, ¬ k = 22 → w2 k = w1 k) → cx_OK none mCo_countLiveUsers (dd + 2) 0 0 (fun r w2 _ => r = none ∧ (∃ g, w2 22 = ai 48 g ∧ ∀ j, j < 48 → g j = nI (usF G.1 kd px py need G.1 j)) ∧ ∀ k, ¬ k = 22 → w2 k = w k) 18 [some (.ref 20), some (.int (nI m + -1))] [] w2 (87, 0, 0) := by
      intro w2 g2 a b c
      have := ih w2 g2 (by omega) a b (fun k q => (c k q).trans (hk k q))
      rw [Int32.sub_eq_add_neg] at this
      exact this
    have same : ¬ ((need m = true ∨ 0 < usF G.1 kd px py need (G.1 - (m + 1)) m) ∧ (kd m = 2 ∨ kd m = 3)) → ∀ j, j < 48 → g j = nI (usF G.1 kd px py need (G.1 - m) j) := fun c j hj => by
      rw [hg j hj, es, usF, eu, if_neg c]; rfl
    have body : (need m = true ∨ 0 < usF G.1 kd px py need (G.1 - (m + 1)) m) →
        (kd m = 0 ∨ kd m = 1 → ∀ j, j < 48 → g j = nI (usF G.1 kd px py need (G.1 - m) j)) ∧
        (kd m = 2 → ∀ j, j < 48 → upd g (px m) (g (px m) + 1) j = nI (usF G.1 kd px py need (G.1 - m) j)) ∧
        (kd m = 3 → ∀ j, j < 48 → upd (upd g (px m) (g (px m) + 1)) (py m) (upd g (px m) (g (px m) + 1) (py m) + 1) j = nI (usF G.1 kd px py need (G.1 - m) j)) := by
      intro c
      refine ⟨fun h => same fun q => by omega, fun h j hj => ?_, fun h j hj => ?_⟩
      · have hp := (d3 (.inl h)).2
        rw [inc_at hg (show px m < 48 by omega) j hj, es, usF, eu, if_pos (show (need m = true ∨ 0 < usF G.1 kd px py need (G.1 - (m + 1)) m) ∧ (kd m = 2 ∨ kd m = 3) from ⟨c, .inl h⟩), if_neg (show ¬ (kd m = 3 ∧ py m = j) by omega)]; rfl
      · have hp := (d3 (.inr h)).2
        have hp2 := (d4 h).2.1
        rw [inc_at (inc_at hg (show px m < 48 by omega)) (show py m < 48 by omega) j hj, es, usF, eu, if_pos (show (need m = true ∨ 0 < usF G.1 kd px py need (G.1 - (m + 1)) m) ∧ (kd m = 2 ∨ kd m = 3) from ⟨c, .inr h⟩), Nat.add_assoc]
        have e0 : (if py m = j then 1 else 0 : Nat) = (if kd m = 3 ∧ py m = j then 1 else 0) := by
          by_cases e : py m = j
          · rw [if_pos e, if_pos ⟨h, e⟩]
          · rw [if_neg e, if_neg (fun z => e z.2)]
        rw [e0]
    have fnn := hneed m (by omega)
    cases nm : need m
    · have F1 : fn m = 0 := fnn.2 (fun (z : need m = true) => by rw [nm] at z; cases z)
      by_cases up : 0 < usF G.1 kd px py need (G.1 - (m + 1)) m
      · have F2 : (nI (usF G.1 kd px py need (G.1 - (m + 1)) m) ≤ 0) = False := eq_false (Int32.not_le.mpr (nI_lt (a := 0) up (by omega)))
        have ⟨b0, b2, b3⟩ := body (.inr up)
        rcases (show kd m = 0 ∨ kd m = 1 ∨ kd m = 2 ∨ kd m = 3 by omega) with kk | kk | kk | kk
        · have KD : G.2.1 m = 0 := by rw [d1, kk]; rfl
          simp (decide := true) only [KD, F1, F2, BmCo_countLiveUsers, BSC, k20, k21, k1, k2, h22, v1, hlt, nI_clamp (n := m) (by omega), hgm, EV, EW, CT, ev_o, ev_is, ev_gd, List.length_cons, List.length_nil, Nat.reduceLT, Nat.reduceAdd, Nat.reduceEqDiff, Nat.reduceLeDiff, Int32.reduceLT, Int32.reduceLE, reduceIte, true_and, and_true, true_or, or_true, not_true_eq_false, not_false_eq_true, false_imp_iff, true_imp_iff, implies_true]
          exact nx w1 g h22 (b0 (by omega)) (fun _ _ => rfl)
        · have KD : G.2.1 m = 1 := by rw [d1, kk]; rfl
          simp (decide := true) only [KD, F1, F2, BmCo_countLiveUsers, BSC, k20, k21, k1, k2, h22, v1, hlt, nI_clamp (n := m) (by omega), hgm, EV, EW, CT, ev_o, ev_is, ev_gd, List.length_cons, List.length_nil, Nat.reduceLT, Nat.reduceAdd, Nat.reduceEqDiff, Nat.reduceLeDiff, Int32.reduceLT, Int32.reduceLE, reduceIte, true_and, and_true, true_or, or_true, not_true_eq_false, not_false_eq_true, false_imp_iff, true_imp_iff, implies_true]
          exact nx w1 g h22 (b0 (by omega)) (fun _ _ => rfl)
        · have KD : G.2.1 m = 2 := by rw [d1, kk]; rfl
          have ⟨x1, x2⟩ := d3 (.inl kk)
          have vx : vp_in (nI (px m)) 48 := nI_in (by omega) (by decide)
          simp (decide := true) only [KD, F1, F2, x1, vx, k3, nI_clamp (n := px m) (by omega), BmCo_countLiveUsers, BSC, k20, k21, k1, k2, h22, v1, hlt, nI_clamp (n := m) (by omega), hgm, EV, EW, CT, ev_o, ev_is, ev_gd, List.length_cons, List.length_nil, Nat.reduceLT, Nat.reduceAdd, Nat.reduceEqDiff, Nat.reduceLeDiff, Int32.reduceLT, Int32.reduceLE, reduceIte, true_and, and_true, true_or, or_true, not_true_eq_false, not_false_eq_true, false_imp_iff, true_imp_iff, implies_true]
          exact nx _ _ (by simp only [cx_up, Nat.reduceEqDiff, reduceIte]) (b2 kk) (fun k q => by simp (disch := omega) only [cx_up, if_neg])
        · have KD : G.2.1 m = 3 := by rw [d1, kk]; rfl
          have ⟨x1, x2⟩ := d3 (.inr kk)
          have ⟨y1, y2, y3⟩ := d4 kk
          have vx : vp_in (nI (px m)) 48 := nI_in (by omega) (by decide)
          have vy : vp_in (nI (py m)) 48 := nI_in (by omega) (by decide)
          simp (decide := true) only [KD, F1, F2, x1, y1, vx, vy, k3, k4, nI_clamp (n := px m) (by omega), nI_clamp (n := py m) (by omega), BmCo_countLiveUsers, BSC, k20, k21, k1, k2, h22, v1, hlt, nI_clamp (n := m) (by omega), hgm, EV, EW, CT, ev_o, ev_is, ev_gd, List.length_cons, List.length_nil, Nat.reduceLT, Nat.reduceAdd, Nat.reduceEqDiff, Nat.reduceLeDiff, Int32.reduceLT, Int32.reduceLE, reduceIte, true_and, and_true, true_or, or_true, not_true_eq_false, not_false_eq_true, false_imp_iff, true_imp_iff, implies_true]
          exact nx _ _ (by simp only [cx_up, Nat.reduceEqDiff, reduceIte]) (b3 kk) (fun k q => by simp (disch := omega) only [cx_up, if_neg])
      · have F2 : (nI (usF G.1 kd px py need (G.1 - (m + 1)) m) ≤ 0) = True := eq_true (nI_le (b := 0) (by omega) (by decide))
        simp (decide := true) only [F1, F2, BmCo_countLiveUsers, BSC, k20, k21, k1, k2, h22, v1, hlt, nI_clamp (n := m) (by omega), hgm, EV, EW, CT, ev_o, ev_is, ev_gd, List.length_cons, List.length_nil, Nat.reduceLT, Nat.reduceAdd, Nat.reduceEqDiff, Nat.reduceLeDiff, Int32.reduceLT, Int32.reduceLE, reduceIte, true_and, and_true, true_or, or_true, not_true_eq_false, not_false_eq_true, false_imp_iff, true_imp_iff, implies_true]
        exact nx w1 g h22 (same fun q => q.1.elim (fun z => by rw [nm] at z; cases z) up) (fun _ _ => rfl)
    · have F1 : fn m = 1 := fnn.1 nm
      have ⟨b0, b2, b3⟩ := body (.inl nm)
      rcases (show kd m = 0 ∨ kd m = 1 ∨ kd m = 2 ∨ kd m = 3 by omega) with kk | kk | kk | kk
      · have KD : G.2.1 m = 0 := by rw [d1, kk]; rfl
        simp (decide := true) only [KD, F1, BmCo_countLiveUsers, BSC, k20, k21, k1, k2, h22, v1, hlt, nI_clamp (n := m) (by omega), hgm, EV, EW, CT, ev_o, ev_is, ev_gd, List.length_cons, List.length_nil, Nat.reduceLT, Nat.reduceAdd, Nat.reduceEqDiff, Nat.reduceLeDiff, Int32.reduceLT, Int32.reduceLE, reduceIte, true_and, and_true, true_or, or_true, not_true_eq_false, not_false_eq_true, false_imp_iff, true_imp_iff, implies_true]
        exact nx w1 g h22 (b0 (by omega)) (fun _ _ => rfl)
      · have KD : G.2.1 m = 1 := by rw [d1, kk]; rfl
        simp (decide := true) only [KD, F1, BmCo_countLiveUsers, BSC, k20, k21, k1, k2, h22, v1, hlt, nI_clamp (n := m) (by omega), hgm, EV, EW, CT, ev_o, ev_is, ev_gd, List.length_cons, List.length_nil, Nat.reduceLT, Nat.reduceAdd, Nat.reduceEqDiff, Nat.reduceLeDiff, Int32.reduceLT, Int32.reduceLE, reduceIte, true_and, and_true, true_or, or_true, not_true_eq_false, not_false_eq_true, false_imp_iff, true_imp_iff, implies_true]
        exact nx w1 g h22 (b0 (by omega)) (fun _ _ => rfl)
      · have KD : G.2.1 m = 2 := by rw [d1, kk]; rfl
        have ⟨x1, x2⟩ := d3 (.inl kk)
        have vx : vp_in (nI (px m)) 48 := nI_in (by omega) (by decide)
        simp (decide := true) only [KD, F1, x1, vx, k3, nI_clamp (n := px m) (by omega), BmCo_countLiveUsers, BSC, k20, k21, k1, k2, h22, v1, hlt, nI_clamp (n := m) (by omega), hgm, EV, EW, CT, ev_o, ev_is, ev_gd, List.length_cons, List.length_nil, Nat.reduceLT, Nat.reduceAdd, Nat.reduceEqDiff, Nat.reduceLeDiff, Int32.reduceLT, Int32.reduceLE, reduceIte, true_and, and_true, true_or, or_true, not_true_eq_false, not_false_eq_true, false_imp_iff, true_imp_iff, implies_true]
        exact nx _ _ (by simp only [cx_up, Nat.reduceEqDiff, reduceIte]) (b2 kk) (fun k q => by simp (disch := omega) only [cx_up, if_neg])
      · have KD : G.2.1 m = 3 := by rw [d1, kk]; rfl
        have ⟨x1, x2⟩ := d3 (.inr kk)
        have ⟨y1, y2, y3⟩ := d4 kk
        have vx : vp_in (nI (px m)) 48 := nI_in (by omega) (by decide)
        have vy : vp_in (nI (py m)) 48 := nI_in (by omega) (by decide)
        simp (decide := true) only [KD, F1, x1, y1, vx, vy, k3, k4, nI_clamp (n := px m) (by omega), nI_clamp (n := py m) (by omega), BmCo_countLiveUsers, BSC, k20, k21, k1, k2, h22, v1, hlt, nI_clamp (n := m) (by omega), hgm, EV, EW, CT, ev_o, ev_is, ev_gd, List.length_cons, List.length_nil, Nat.reduceLT, Nat.reduceAdd, Nat.reduceEqDiff, Nat.reduceLeDiff, Int32.reduceLT, Int32.reduceLE, reduceIte, true_and, and_true, true_or, or_true, not_true_eq_false, not_false_eq_true, false_imp_iff, true_imp_iff, implies_true]
        exact nx _ _ (by simp only [cx_up, Nat.reduceEqDiff, reduceIte]) (b3 kk) (fun k q => by simp (disch := omega) only [cx_up, if_neg])
set_option maxHeartbeats 4000000 in
theorem c_Co_countLiveUsers {w : cx_W} {G : Gr} {kd px py : Nat → Nat} {need : Nat → Bool} {fn g0 : Nat → Int32} {dd : Nat} (hG : GW w G) (hn : G.1 ≤ 48) (hK : GK G kd px py) (h20 : ∃ x, w 20 = oCo x) (h21 : w 21 = az 48 fn) (hneed : BR 48 fn (fun j => need j = true)) (h22 : w 22 = ai 48 g0) :
    cx_MC mCo_countLiveUsers (dd + 2) 0 0 [.ref 20] w 87 (fun r w2 => r = none ∧ (∃ g, w2 22 = ai 48 g ∧ ∀ j, j < 48 → g j = nI (usF G.1 kd px py need G.1 j)) ∧ ∀ k, ¬ k = 22 → w2 k = w k) := by
  have h20' := h20
  obtain ⟨x, h20⟩ := h20
  have hG' := hG
  obtain ⟨g1, g2, g3, g4⟩ := hG
  refine cx_met 60 mCo_countLiveUsers_ok rfl ?_
  show cx_vc 60 none mCo_countLiveUsers (dd + 2) 0 0 _ _ 0 [some (.ref 20), none] [] w (87, 0, 0)
  simp (decide := true) only [BmCo_countLiveUsers, h20, EV, EW, CT, ev_o, ev_is, ev_gd, List.length_cons, List.length_nil, Nat.reduceLT, Nat.reduceAdd, Nat.reduceEqDiff, Nat.reduceLeDiff, Int32.reduceLT, Int32.reduceLE, reduceIte, true_and, and_true, true_or, or_true, not_true_eq_false, not_false_eq_true, false_imp_iff, true_imp_iff, implies_true]
  refine cx_cs1 (dd + 1) 0 0 ⟨Nat.le_refl _, by show 8 + (4 + 11) + 40 * (dd + 1) ≤ 40 * (dd + 2); omega, Nat.le_refl _, Nat.le_refl _⟩ (c_Arr_fill (by decide) (by decide) h22) fun r w2 h2 => ?_
  obtain ⟨rfl, a1, a2⟩ := h2
  have k20 := (a2 20 (by decide)).trans h20
  have k1 := (a2 1 (by decide)).trans g1
  simp (decide := true) only [BmCo_countLiveUsers, BSC, k20, k1, EV, EW, CT, ev_o, ev_is, ev_gd, List.length_cons, List.length_nil, Nat.reduceLT, Nat.reduceAdd, Nat.reduceEqDiff, Nat.reduceLeDiff, Int32.reduceLT, Int32.reduceLE, reduceIte, true_and, and_true, true_or, or_true, not_true_eq_false, not_false_eq_true, false_imp_iff, true_imp_iff, implies_true]
  refine clu_loop (w := w) hG' hn hK h20' h21 hneed G.1 w2 _ (Nat.le_refl _) a1 (fun j hj => ?_) a2
  rw [if_pos hj, Nat.sub_self]; rfl
