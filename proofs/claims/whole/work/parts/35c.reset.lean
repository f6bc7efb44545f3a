/-! Clocking and reset of a mapped circuit, both sides: contracts. Own work. -/
set_option maxHeartbeats 8000000 in
theorem c_C_clockRetimed {w : cx_W} {inp : Int32} {Q : Option Value → cx_W → Prop} (h0 : w 0 = oC 1) (h40 : w 40 = oMa) (hQ : ∀ r w2, Q r w2 → ∃ x : Int32, r = some (.int x)) (h : cx_MC mMa_runCycle 10 0 0 [.ref 40, .int inp] w 87 Q) : cx_MC mC_clockRetimed 12 0 0 [.ref 0, .int inp] w 87 Q := by
  refine cx_met 60 mC_clockRetimed_ok rfl ?_
  show cx_vc 60 none mC_clockRetimed 12 0 0 _ _ 0 [some (.ref 0), some (.int inp)] [] w (87, 0, 0)
  simp (decide := true) only [BmC_clockRetimed, h0, h40, EV, EW, CT, ev_o, ev_is, ev_gd, List.length_cons, List.length_nil, Nat.reduceLT, Nat.reduceAdd, Nat.reduceEqDiff, Nat.reduceLeDiff, Int32.reduceLT, Int32.reduceLE, reduceIte, true_and, and_true, true_or, or_true, not_true_eq_false, not_false_eq_true, false_imp_iff, true_imp_iff, implies_true]
  refine cx_cs1 10 0 0 (by decide) h fun r w2 h2 => ?_
  obtain ⟨x, rfl⟩ := hQ r w2 h2
  simp (decide := true) only [BmC_clockRetimed, EV, EW, CT, ev_o, ev_is, ev_gd, List.length_cons, List.length_nil, Nat.reduceLT, Nat.reduceAdd, Nat.reduceEqDiff, Nat.reduceLeDiff, Int32.reduceLT, Int32.reduceLE, reduceIte, true_and, and_true, true_or, or_true, not_true_eq_false, not_false_eq_true, false_imp_iff, true_imp_iff, implies_true]
  exact h2
set_option maxHeartbeats 8000000 in
theorem c_C_reset0 {w : cx_W} {y0 y1 y2 y3 y4 y5 : Int32} (h0 : w 0 = oC 0) (h6 : w 6 = oCi y0 y1 y2 y3 y4 y5) : cx_MC mC_reset 12 0 0 [.ref 0] w 87 (fun r w2 => r = none ∧ w2 6 = oCi y0 y1 y2 y3 y4 y4 ∧ ∀ k, ¬ k = 6 → w2 k = w k) := by
  refine cx_met 60 mC_reset_ok rfl ?_
  show cx_vc 60 none mC_reset 12 0 0 _ _ 0 [some (.ref 0)] [] w (87, 0, 0)
  simp (decide := true) only [BmC_reset, BSC, h0, h6, EV, EW, CT, ev_o, ev_is, ev_gd, List.length_cons, List.length_nil, Nat.reduceLT, Nat.reduceAdd, Nat.reduceEqDiff, Nat.reduceLeDiff, Int32.reduceLT, Int32.reduceLE, reduceIte, true_and, and_true, true_or, or_true, not_true_eq_false, not_false_eq_true, false_imp_iff, true_imp_iff, implies_true]
  exact fun k z => if_neg z
set_option maxHeartbeats 8000000 in
theorem c_C_reset1 {w : cx_W} {y0 y1 y2 y3 y4 y5 : Int32} {n : Nat} {gt : Nat → Prop} {pl F : Nat → Nat} {fo oc : Nat} {S tbl cn : Nat → Nat} {gs ch pn tb sr fg gm ct : Nat → Int32} {rw pw : Nat → Int64} (h0 : w 0 = oC 1) (h6 : w 6 = oCi y0 y1 y2 y3 y4 y5) (hA : ArW w n gt pl F fo oc S tbl cn gs ch pn tb sr fg gm ct) (h34 : w 34 = al 196 rw) (h41 : w 41 = al 196 pw) :
    cx_MC mC_reset 12 0 0 [.ref 0] w 87 (fun r w2 => r = none ∧ w2 6 = oCi y0 y1 y2 y3 y4 y4 ∧ (∃ pw, w2 41 = al 196 pw ∧ ∀ j, j < fo + oc → pw j = rw j) ∧ ∀ k, ¬ k = 6 ∧ ¬ k = 41 → w2 k = w k) := by
  obtain ⟨⟨⟨y1_, ⟨y2x, y2_⟩, y3_, y4_, y5_, y6_, y7_, y8_, y9_, y10_⟩, yr⟩, z1, z2, z3, z4, z5, z6⟩ := hA
  have J : ∀ k, ¬ k = 6 → ∀ {e : cx_E}, w k = e → cx_up w 6 (oCi y0 y1 y2 y3 y4 y4) k = e := fun k hk e y => by
    rw [← y]; simp (disch := omega) only [cx_up, if_neg]
  refine cx_met 60 mC_reset_ok rfl ?_
  show cx_vc 60 none mC_reset 12 0 0 _ _ 0 [some (.ref 0)] [] w (87, 0, 0)
  simp (decide := true) only [BmC_reset, BmCi_restart, h0, h6, z6, EV, EW, CT, ev_o, ev_is, ev_gd, List.length_cons, List.length_nil, Nat.reduceLT, Nat.reduceAdd, Nat.reduceEqDiff, Nat.reduceLeDiff, Int32.reduceLT, Int32.reduceLE, reduceIte, true_and, and_true, true_or, or_true, not_true_eq_false, not_false_eq_true, false_imp_iff, true_imp_iff, implies_true]
  refine cx_cs1 11 0 0 (by decide) (c_Ma_restart (dd := 9) ⟨⟨⟨y1_, ⟨y2x, J 13 (by omega) y2_⟩, J 17 (by omega) y3_, J 19 (by omega) y4_, J 20 (by omega) y5_, J 24 (by omega) y6_, J 29 (by omega) y7_, J 30 (by omega) y8_, J 31 (by omega) y9_, J 35 (by omega) y10_⟩, yr⟩, J 1 (by omega) z1, J 28 (by omega) z2, z3, J 33 (by omega) z4, z5, J 40 (by omega) z6⟩ (J 34 (by omega) h34) (J 41 (by omega) h41)) fun r w2 h2 => ?_
  obtain ⟨rfl, ⟨pw2, a41, hpw⟩, ak⟩ := h2
  simp (decide := true) only [BmC_reset, EV, EW, CT, ev_o, ev_is, ev_gd, List.length_cons, List.length_nil, Nat.reduceLT, Nat.reduceAdd, Nat.reduceEqDiff, Nat.reduceLeDiff, Int32.reduceLT, Int32.reduceLE, reduceIte, true_and, and_true, true_or, or_true, not_true_eq_false, not_false_eq_true, false_imp_iff, true_imp_iff, implies_true]
  refine ⟨?_, ⟨pw2, a41, hpw⟩, fun k z => ?_⟩
  · rw [ak 6 (by decide)]; simp only [cx_up, Nat.reduceEqDiff, reduceIte]
  · rw [ak k z.2]; exact J k z.1 rfl
set_option maxHeartbeats 8000000 in
theorem c_M_reset {w : cx_W} {nc : Nat} {x1 x2 x3 x4 x5 x6 x7 x8 x9 : Int32} {fi nw : Nat → Int32} {lr pr : Nat → Int64} (hnc : nc ≤ 40) (h45 : w 45 = oM (nI nc) x1 x2 x3 x4 x5 x6 x7 x8 x9) (h48 : w 48 = ai 40 fi) (h49 : w 49 = ai 40 nw) (h77 : w 77 = al 196 lr) (h78 : w 78 = al 196 pr) :
    cx_MC mM_reset 12 0 0 [.ref 45] w 87 (fun r w2 => r = none ∧ (∃ nw2, w2 49 = ai 40 nw2 ∧ ∀ j, j < nc → nw2 j = fi j) ∧ (∃ pr2, w2 78 = al 196 pr2 ∧ ∀ e, e < 196 → pr2 e = lr e) ∧ ∀ k, ¬ k = 49 ∧ ¬ k = 78 → w2 k = w k) := by
  have lp2 : ∀ (k i : Nat) (w1 : cx_W) (nw1 : Nat → Int32) (pr1 : Nat → Int64), i + k = 196 → w1 49 = ai 40 nw1 → (∀ j, j < nc → nw1 j = fi j) → w1 78 = al 196 pr1 → (∀ e, e < i → pr1 e = lr e) → (∀ k, ¬ k = 49 ∧ ¬ k = 78 → w1 k = w k) →
      cx_OK none mM_reset 12 0 0 (fun r w2 _ => r = none ∧ (∃ nw2, w2 49 = ai 40 nw2 ∧ ∀ j, j < nc → nw2 j = fi j) ∧ (∃ pr2, w2 78 = al 196 pr2 ∧ ∀ e, e < 196 → pr2 e = lr e) ∧ ∀ k, ¬ k = 49 ∧ ¬ k = 78 → w2 k = w k) 30 [some (.ref 45), some (.int (nI i))] [] w1 (87, 0, 0) := by
    intro k
    induction k with
    | zero =>
      intro i w1 nw1 pr1 hi g49 hn1 g78 hp hk
      have e : i = 196 := by omega
      subst e
      have E : ((196 : Int32) ≤ nI 196) = True := by decide
      refine cx_run 60 mM_reset_mo ?_
      simp (decide := true) only [BmM_reset, E, EV, EW, CT, ev_o, ev_is, ev_gd, List.length_cons, List.length_nil, Nat.reduceLT, Nat.reduceAdd, Nat.reduceEqDiff, Nat.reduceLeDiff, Int32.reduceLT, Int32.reduceLE, reduceIte, true_and, and_true, true_or, or_true, not_true_eq_false, not_false_eq_true, false_imp_iff, true_imp_iff, implies_true]
      exact ⟨⟨nw1, g49, hn1⟩, ⟨pr1, g78, hp⟩, hk⟩
    | succ k ih =>
      intro i w1 nw1 pr1 hi g49 hn1 g78 hp hk
      have E : ((196 : Int32) ≤ nI i) = False := (lek (a := i) (c := 196) (x := 196) rfl (by omega) (by decide)).trans (eq_false (by omega))
      have k45 := (hk 45 (by decide)).trans h45
      have k77 := (hk 77 (by decide)).trans h77
      have vi : vp_in (nI i) 196 := nI_in (by omega) (by decide)
      refine cx_run 60 mM_reset_mo ?_
      simp (decide := true) only [BmM_reset, k45, k77, g78, E, vi, nI_1, nI_clamp (n := i) (by omega), EV, EW, CT, ev_o, ev_is, ev_gd, List.length_cons, List.length_nil, Nat.reduceLT, Nat.reduceAdd, Nat.reduceEqDiff, Nat.reduceLeDiff, Int32.reduceLT, Int32.reduceLE, reduceIte, true_and, and_true, true_or, or_true, not_true_eq_false, not_false_eq_true, false_imp_iff, true_imp_iff, implies_true]
      refine ih (i + 1) _ nw1 (vp_updL pr1 i (lr i)) (by omega) (by simp only [cx_up, Nat.reduceEqDiff, reduceIte]; exact g49) hn1 (by simp only [cx_up, Nat.reduceEqDiff, reduceIte]) (fun e he => ?_) (fun k z => by rw [← hk k z]; simp (disch := omega) only [cx_up, if_neg])
      by_cases q : e = i
      · rw [q, pk_uLs]
      · rw [pk_uLn q]; exact hp e (by omega)
  have lp1 : ∀ (k i : Nat) (w1 : cx_W) (nw1 : Nat → Int32), i + k = nc → w1 49 = ai 40 nw1 → (∀ j, j < i → nw1 j = fi j) → (∀ k, ¬ k = 49 → w1 k = w k) →
      cx_OK none mM_reset 12 0 0 (fun r w2 _ => r = none ∧ (∃ nw2, w2 49 = ai 40 nw2 ∧ ∀ j, j < nc → nw2 j = fi j) ∧ (∃ pr2, w2 78 = al 196 pr2 ∧ ∀ e, e < 196 → pr2 e = lr e) ∧ ∀ k, ¬ k = 49 ∧ ¬ k = 78 → w2 k = w k) 2 [some (.ref 45), some (.int (nI i))] [] w1 (87, 0, 0) := by
    intro k
    induction k with
    | zero =>
      intro i w1 nw1 hi g49 hn1 hk
      have e : i = nc := by omega
      subst e
      have E := leT (a := i) (b := i) (by omega) (by omega)
      have k45 := (hk 45 (by decide)).trans h45
      refine cx_run 60 mM_reset_mo ?_
      simp (decide := true) only [BmM_reset, k45, E, EV, EW, CT, ev_o, ev_is, ev_gd, List.length_cons, List.length_nil, Nat.reduceLT, Nat.reduceAdd, Nat.reduceEqDiff, Nat.reduceLeDiff, Int32.reduceLT, Int32.reduceLE, reduceIte, true_and, and_true, true_or, or_true, not_true_eq_false, not_false_eq_true, false_imp_iff, true_imp_iff, implies_true]
      exact lp2 196 0 w1 nw1 pr (by omega) g49 hn1 ((hk 78 (by decide)).trans h78) (fun e h => by omega) (fun k z => hk k z.1)
    | succ k ih =>
      intro i w1 nw1 hi g49 hn1 hk
      have E := leF (a := nc) (b := i) (by omega) (by omega)
      have k45 := (hk 45 (by decide)).trans h45
      have k48 := (hk 48 (by decide)).trans h48
      have vi : vp_in (nI i) 40 := nI_in (by omega) (by decide)
      refine cx_run 60 mM_reset_mo ?_
      simp (decide := true) only [BmM_reset, k45, k48, g49, E, vi, nI_1, nI_clamp (n := i) (by omega), EV, EW, CT, ev_o, ev_is, ev_gd, List.length_cons, List.length_nil, Nat.reduceLT, Nat.reduceAdd, Nat.reduceEqDiff, Nat.reduceLeDiff, Int32.reduceLT, Int32.reduceLE, reduceIte, true_and, and_true, true_or, or_true, not_true_eq_false, not_false_eq_true, false_imp_iff, true_imp_iff, implies_true]
      refine ih (i + 1) _ (upd nw1 i (fi i)) (by omega) (by simp only [cx_up, Nat.reduceEqDiff, reduceIte]) (fun j hj => ?_) (fun k z => by rw [← hk k z]; simp (disch := omega) only [cx_up, if_neg])
      by_cases q : j = i
      · rw [q, pk_us]
      · rw [pk_un q]; exact hn1 j (by omega)
  refine cx_met 60 mM_reset_ok rfl ?_
  show cx_vc 60 none mM_reset 12 0 0 _ _ 0 [some (.ref 45), none] [] w (87, 0, 0)
  simp (decide := true) only [BmM_reset, EV, EW, CT, ev_o, ev_is, ev_gd, List.length_cons, List.length_nil, Nat.reduceLT, Nat.reduceAdd, Nat.reduceEqDiff, Nat.reduceLeDiff, Int32.reduceLT, Int32.reduceLE, reduceIte, true_and, and_true, true_or, or_true, not_true_eq_false, not_false_eq_true, false_imp_iff, true_imp_iff, implies_true]
  exact lp1 nc 0 w nw (by omega) h49 (fun j h => by omega) (fun _ _ => rfl)
