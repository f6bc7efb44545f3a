/-! Roots, the reference. Printed by gen_20a.py. -/
/-- the reference's numbers of the kinds -/
def kM (k : Nat) : Nat := if k = 2 then 3 else if k = 3 then 2 else k
def GKM (H : Gr) (kd px py : Nat → Nat) : Prop := ∀ j, j < H.1 → H.2.1 j = nI (kM (kd j)) ∧ kd j < 4 ∧ ((kd j = 2 ∨ kd j = 3) → H.2.2.1 j = nI (px j) ∧ px j < j) ∧ (kd j = 3 → H.2.2.2 j = nI (py j) ∧ py j < j ∧ ¬ px j = py j)
/-- rows that roots are found in -/
def MrW (w : cx_W) (lv rt gt rd : Nat → Int32) : Prop := w 64 = az 48 lv ∧ w 65 = az 48 rt ∧ w 70 = az 48 gt ∧ w 66 = ai 48 rd
def fr4 (k : Nat) : Prop := ¬ k = 64 ∧ ¬ k = 65 ∧ ¬ k = 66 ∧ ¬ k = 70
theorem BR.put {n i : Nat} {f : Nat → Int32} {P Q : Nat → Prop} {x : Int32} (h : BR n f P) (h1 : Q i → x = 1) (h2 : ¬ Q i → x = 0) (e : ∀ j, j < n → ¬ j = i → (P j ↔ Q j)) : BR n (upd f i x) Q := by
  intro j hj
  by_cases q : j = i
  · subst q; rw [pk_us]; exact ⟨h1, h2⟩
  · rw [pk_un q]; exact ⟨fun z => (h j hj).1 ((e j hj q).mpr z), fun z => (h j hj).2 fun y => z ((e j hj q).mp y)⟩
set_option maxHeartbeats 8000000 in
theorem fr_loop5 {w : cx_W} {H : Gr} {kd px py : Nat → Nat} {need : Nat → Bool} {nc oc : Nat} {x1 x2 x5 x6 x7 x8 x9 : Int32} {dd : Nat} (h45 : w 45 = oM (nI nc) x1 x2 (nI H.1) (nI oc) x5 x6 x7 x8 x9) (h56 : w 56 = ai 48 H.2.1) (h57 : w 57 = ai 48 H.2.2.1) (h58 : w 58 = ai 48 H.2.2.2) (hn : H.1 ≤ 48) (hK : GKM H kd px py) (hus : ∀ j, usF H.1 kd px py need H.1 j ≤ 96) :
    ∀ (m i : Nat) (w1 : cx_W) (lv rt gt rd : Nat → Int32), i + m = H.1 → MrW w1 lv rt gt rd → (∀ k, fr4 k → w1 k = w k) → BR 48 lv (fun j => lvF H.1 kd px py need j = true) → BR 48 gt (fun _ => False) → (∀ j, j < 48 → rd j = nI (usF H.1 kd px py need H.1 j)) →
    BR 48 rt (fun j => j < H.1 ∧ (kd j = 2 ∨ kd j = 3) ∧ (need j = true ∨ (j < i ∧ 1 < usF H.1 kd px py need H.1 j))) →
    cx_OK none mM_findRoots (dd + 2) 0 0 (fun r w2 _ => r = none ∧ (∃ lv rt gt rd, MrW w2 lv rt gt rd ∧ BR 48 lv (fun j => lvF H.1 kd px py need j = true) ∧ BR 48 rt (fun j => j < H.1 ∧ rtF H.1 kd px py need j = true) ∧ BR 48 gt (fun _ => False) ∧ ∀ j, j < 48 → rd j = nI (usF H.1 kd px py need H.1 j)) ∧ ∀ k, fr4 k → w2 k = w k) 204 [some (.ref 45), some (.int (nI i))] [] w1 (87, 0, 0) := by
  intro m
  induction m with
  | zero =>
    intro i w1 lv rt gt rd hi hM hk bl bg br bt
    have hM' := hM
    obtain ⟨m64, m65, m70, m66⟩ := hM
    have e : i = H.1 := by omega
    subst e
    have E := leT (a := H.1) (b := H.1) (by omega) (by omega)
    have k45 := (hk 45 (by unfold fr4; decide)).trans h45
    refine cx_run 60 mM_findRoots_mo ?_
    simp (decide := true) only [BmM_findRoots, k45, E, EV, EW, CT, ev_o, ev_is, ev_gd, List.length_cons, List.length_nil, Nat.reduceLT, Nat.reduceAdd, Nat.reduceEqDiff, Nat.reduceLeDiff, Int32.reduceLT, Int32.reduceLE, reduceIte, true_and, and_true, true_or, or_true, not_true_eq_false, not_false_eq_true, false_imp_iff, true_imp_iff, implies_true]
    refine ⟨⟨lv, rt, gt, rd, hM', bl, bt.congr fun j _ => ?_, bg, br⟩, hk⟩
    unfold rtF
    rw [Bool.and_eq_true, Bool.or_eq_true, decide_eq_true_eq, decide_eq_true_eq]
    exact ⟨fun h => ⟨h.1, h.2.1, h.2.2.elim .inl fun z => .inr z.2⟩, fun h => ⟨h.1, h.2.1, h.2.2.elim .inl fun z => .inr ⟨h.1, z⟩⟩⟩
  | succ m ih =>
    intro i w1 lv rt gt rd hi hM hk bl bg br bt
    have hM' := hM
    obtain ⟨m64, m65, m70, m66⟩ := hM
    have E := leF (a := H.1) (b := i) (by omega) (by omega)
    have k45 := (hk 45 (by unfold fr4; decide)).trans h45
    have k56 := (hk 56 (by unfold fr4; decide)).trans h56
    have v1 : vp_in (nI i) 48 := nI_in (by omega) (by decide)
    have ⟨d1, d2, d3, d4⟩ := hK i (by omega)
    have bti := bt i (by omega)
    have rdi := br i (by omega)
    have usi := hus i
    have nx : ∀ x : Int32, (((kd i = 2 ∨ kd i = 3) ∧ (need i = true ∨ 1 < usF H.1 kd px py need H.1 i)) → x = 1) → (¬ ((kd i = 2 ∨ kd i = 3) ∧ (need i = true ∨ 1 < usF H.1 kd px py need H.1 i)) → x = 0) → cx_OK none mM_findRoots (dd + 2) 0 0 (fun r w2 _ => r = none ∧ (∃ lv rt gt rd, MrW w2 lv rt gt rd ∧ BR 48 lv (fun j => lvF H.1 kd px py need j = true) ∧ BR 48 rt (fun j => j < H.1 ∧ rtF H.1 kd px py need j = true) ∧ BR 48 gt (fun _ => False) ∧ ∀ j, j < 48 → rd j = nI (usF H.1 kd px py need H.1 j)) ∧ ∀ k, fr4 k → w2 k = w k) 204 [some (.ref 45), some (.int (nI (i + 1)))] [] (cx_up w1 65 (az 48 (upd rt i x))) (87, 0, 0) := by
      intro x a b
      refine ih (i + 1) _ lv (upd rt i x) gt rd (by omega) ⟨by simp only [cx_up, Nat.reduceEqDiff, reduceIte]; exact m64, by simp only [cx_up, Nat.reduceEqDiff, reduceIte], by simp only [cx_up, Nat.reduceEqDiff, reduceIte]; exact m70, by simp only [cx_up, Nat.reduceEqDiff, reduceIte]; exact m66⟩ (fun k q => by rw [← hk k q]; unfold fr4 at q; simp (disch := omega) only [cx_up, if_neg]) bl bg br (bt.put (fun h => a ⟨h.2.1, h.2.2.elim .inl fun z => .inr z.2⟩) (fun h => b fun z => h ⟨by omega, z.1, z.2.elim .inl fun y => .inr ⟨by omega, y⟩⟩) (fun j _ hj => ⟨fun h => ⟨h.1, h.2.1, h.2.2.elim .inl fun z => .inr ⟨by omega, z.2⟩⟩, fun h => ⟨h.1, h.2.1, h.2.2.elim .inl fun z => .inr ⟨by omega, z.2⟩⟩⟩))
    refine cx_run 60 mM_findRoots_mo ?_
    by_cases q : (kd i = 2 ∨ kd i = 3) ∧ need i = true
    · have F : rt i = 1 := bti.1 ⟨by omega, q.1, .inl q.2⟩
      simp (decide := true) only [BmM_findRoots, BSM, k45, k56, m65, m66, E, v1, F, nI_clamp (n := i) (by omega), nI_1, EV, EW, CT, ev_o, ev_is, ev_gd, List.length_cons, List.length_nil, Nat.reduceLT, Nat.reduceAdd, Nat.reduceEqDiff, Nat.reduceLeDiff, Int32.reduceLT, Int32.reduceLE, reduceIte, true_and, and_true, true_or, or_true, not_true_eq_false, not_false_eq_true, false_imp_iff, true_imp_iff, implies_true]
      exact nx 1 (fun _ => rfl) (fun h => absurd ⟨q.1, .inl q.2⟩ h)
    · have F : rt i = 0 := bti.2 fun h => h.2.2.elim (fun z => q ⟨h.2.1, z⟩) fun z => by omega
      rcases (show kd i = 0 ∨ kd i = 1 ∨ kd i = 2 ∨ kd i = 3 by omega) with kk | kk | kk | kk
      · have KD : H.2.1 i = 0 := by rw [d1, kk]; rfl
        simp (decide := true) only [KD, BmM_findRoots, BSM, k45, k56, m65, m66, E, v1, F, nI_clamp (n := i) (by omega), nI_1, EV, EW, CT, ev_o, ev_is, ev_gd, List.length_cons, List.length_nil, Nat.reduceLT, Nat.reduceAdd, Nat.reduceEqDiff, Nat.reduceLeDiff, Int32.reduceLT, Int32.reduceLE, reduceIte, true_and, and_true, true_or, or_true, not_true_eq_false, not_false_eq_true, false_imp_iff, true_imp_iff, implies_true]
        exact nx 0 (fun h => by omega) (fun _ => rfl)
      · have KD : H.2.1 i = 1 := by rw [d1, kk]; rfl
        simp (decide := true) only [KD, BmM_findRoots, BSM, k45, k56, m65, m66, E, v1, F, nI_clamp (n := i) (by omega), nI_1, EV, EW, CT, ev_o, ev_is, ev_gd, List.length_cons, List.length_nil, Nat.reduceLT, Nat.reduceAdd, Nat.reduceEqDiff, Nat.reduceLeDiff, Int32.reduceLT, Int32.reduceLE, reduceIte, true_and, and_true, true_or, or_true, not_true_eq_false, not_false_eq_true, false_imp_iff, true_imp_iff, implies_true]
        exact nx 0 (fun h => by omega) (fun _ => rfl)
      · have KD : H.2.1 i = 3 := by rw [d1, kk]; rfl
        by_cases u : 1 < usF H.1 kd px py need H.1 i
        · have F2 : (nI (usF H.1 kd px py need H.1 i) ≤ 1) = False := eq_false (Int32.not_le.mpr (nI_lt (a := 1) u (by omega)))
          simp (decide := true) only [KD, F2, rdi, BmM_findRoots, BSM, k45, k56, m65, m66, E, v1, F, nI_clamp (n := i) (by omega), nI_1, EV, EW, CT, ev_o, ev_is, ev_gd, List.length_cons, List.length_nil, Nat.reduceLT, Nat.reduceAdd, Nat.reduceEqDiff, Nat.reduceLeDiff, Int32.reduceLT, Int32.reduceLE, reduceIte, true_and, and_true, true_or, or_true, not_true_eq_false, not_false_eq_true, false_imp_iff, true_imp_iff, implies_true]
          exact nx 1 (fun _ => rfl) (fun h => absurd ⟨by omega, .inr u⟩ h)
        · have F2 : (nI (usF H.1 kd px py need H.1 i) ≤ 1) = True := eq_true (nI_le (b := 1) (by omega) (by decide))
          simp (decide := true) only [KD, F2, rdi, BmM_findRoots, BSM, k45, k56, m65, m66, E, v1, F, nI_clamp (n := i) (by omega), nI_1, EV, EW, CT, ev_o, ev_is, ev_gd, List.length_cons, List.length_nil, Nat.reduceLT, Nat.reduceAdd, Nat.reduceEqDiff, Nat.reduceLeDiff, Int32.reduceLT, Int32.reduceLE, reduceIte, true_and, and_true, true_or, or_true, not_true_eq_false, not_false_eq_true, false_imp_iff, true_imp_iff, implies_true]
          exact nx 0 (fun h => h.2.elim (fun z => absurd ⟨h.1, z⟩ q) (fun z => absurd z u)) (fun _ => rfl)
      · have KD : H.2.1 i = 2 := by rw [d1, kk]; rfl
        by_cases u : 1 < usF H.1 kd px py need H.1 i
        · have F2 : (nI (usF H.1 kd px py need H.1 i) ≤ 1) = False := eq_false (Int32.not_le.mpr (nI_lt (a := 1) u (by omega)))
          simp (decide := true) only [KD, F2, rdi, BmM_findRoots, BSM, k45, k56, m65, m66, E, v1, F, nI_clamp (n := i) (by omega), nI_1, EV, EW, CT, ev_o, ev_is, ev_gd, List.length_cons, List.length_nil, Nat.reduceLT, Nat.reduceAdd, Nat.reduceEqDiff, Nat.reduceLeDiff, Int32.reduceLT, Int32.reduceLE, reduceIte, true_and, and_true, true_or, or_true, not_true_eq_false, not_false_eq_true, false_imp_iff, true_imp_iff, implies_true]
          exact nx 1 (fun _ => rfl) (fun h => absurd ⟨by omega, .inr u⟩ h)
        · have F2 : (nI (usF H.1 kd px py need H.1 i) ≤ 1) = True := eq_true (nI_le (b := 1) (by omega) (by decide))
          simp (decide := true) only [KD, F2, rdi, BmM_findRoots, BSM, k45, k56, m65, m66, E, v1, F, nI_clamp (n := i) (by omega), nI_1, EV, EW, CT, ev_o, ev_is, ev_gd, List.length_cons, List.length_nil, Nat.reduceLT, Nat.reduceAdd, Nat.reduceEqDiff, Nat.reduceLeDiff, Int32.reduceLT, Int32.reduceLE, reduceIte, true_and, and_true, true_or, or_true, not_true_eq_false, not_false_eq_true, false_imp_iff, true_imp_iff, implies_true]
          exact nx 0 (fun h => h.2.elim (fun z => absurd ⟨h.1, z⟩ q) (fun z => absurd z u)) (fun _ => rfl)
