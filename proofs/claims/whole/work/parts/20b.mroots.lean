/-! Roots, the reference: live nodes. Printed by gen_20b.py. -/
set_option maxHeartbeats 16000000 in
theorem fr_loop4 {w : cx_W} {H : Gr} {kd px py : Nat → Nat} {need : Nat → Bool} {nc oc : Nat} {x1 x2 x5 x6 x7 x8 x9 : Int32} {dd : Nat} (h45 : w 45 = oM (nI nc) x1 x2 (nI H.1) (nI oc) x5 x6 x7 x8 x9) (h56 : w 56 = ai 48 H.2.1) (h57 : w 57 = ai 48 H.2.2.1) (h58 : w 58 = ai 48 H.2.2.2) (hn : H.1 ≤ 48) (hK : GKM H kd px py) (hneed : ∀ j, need j = true → j < H.1) :
    ∀ (m : Nat) (w1 : cx_W) (lv rt gt rd : Nat → Int32), m ≤ H.1 → MrW w1 lv rt gt rd → (∀ k, fr4 k → w1 k = w k) → BR 48 lv (fun j => need j = true ∨ 0 < usF H.1 kd px py need (H.1 - m) j) → BR 48 gt (fun _ => False) → (∀ j, j < 48 → rd j = nI (usF H.1 kd px py need (H.1 - m) j)) → BR 48 rt (fun j => j < H.1 ∧ (kd j = 2 ∨ kd j = 3) ∧ need j = true) →
    cx_OK none mM_findRoots (dd + 2) 0 0 (fun r w2 _ => r = none ∧ (∃ lv rt gt rd, MrW w2 lv rt gt rd ∧ BR 48 lv (fun j => lvF H.1 kd px py need j = true) ∧ BR 48 rt (fun j => j < H.1 ∧ rtF H.1 kd px py need j = true) ∧ BR 48 gt (fun _ => False) ∧ ∀ j, j < 48 → rd j = nI (usF H.1 kd px py need H.1 j)) ∧ ∀ k, fr4 k → w2 k = w k) 111 [some (.ref 45), some (.int (nI m - 1))] [] w1 (87, 0, 0) := by
  intro m
  induction m with
  | zero =>
    intro w1 lv rt gt rd hm hM hk bl bg br bt
    rw [Nat.sub_zero] at bl br
    refine cx_run 60 mM_findRoots_mo ?_
    simp (decide := true) only [BmM_findRoots, nI_0, EV, EW, CT, ev_o, ev_is, ev_gd, List.length_cons, List.length_nil, Nat.reduceLT, Nat.reduceAdd, Nat.reduceEqDiff, Nat.reduceLeDiff, Int32.reduceLT, Int32.reduceLE, reduceIte, true_and, and_true, true_or, or_true, not_true_eq_false, not_false_eq_true, false_imp_iff, true_imp_iff, implies_true]
    refine fr_loop5 (w := w) h45 h56 h57 h58 hn hK (fun j => by have := usF_le H.1 kd px py need H.1 j; omega) H.1 0 w1 lv rt gt rd (by omega) hM hk (bl.congr fun j _ => ?_) bg br (bt.congr fun j _ => ⟨fun h => ⟨h.1, h.2.1, .inl h.2.2⟩, fun h => ⟨h.1, h.2.1, h.2.2.elim id fun z => by omega⟩⟩)
    unfold lvF
    rw [Bool.or_eq_true, decide_eq_true_eq]
  | succ m ih =>
    intro w1 lv rt gt rd hm hM hk bl bg br bt
    have hM' := hM
    obtain ⟨m64, m65, m70, m66⟩ := hM
    have k45 := (hk 45 (by unfold fr4; decide)).trans h45
    have k56 := (hk 56 (by unfold fr4; decide)).trans h56
    have k57 := (hk 57 (by unfold fr4; decide)).trans h57
    have k58 := (hk 58 (by unfold fr4; decide)).trans h58
    have v1 : vp_in (nI m) 48 := nI_in (by omega) (by decide)
    have hlt : ¬ nI m < 0 := nI_pos (by omega)
    have ⟨d1, d2, d3, d4⟩ := hK m (by omega)
    have eu : H.1 - 1 - (H.1 - (m + 1)) = m := by omega
    have es : H.1 - m = (H.1 - (m + 1)) + 1 := by omega
    have nx : ∀ (w2 : cx_W) (lv2 rd2 : Nat → Int32), MrW w2 lv2 rt gt rd2 → (∀ k, fr4 k → w2 k = w1 k) → BR 48 lv2 (fun j => need j = true ∨ 0 < usF H.1 kd px py need (H.1 - m) j) → (∀ j, j < 48 → rd2 j = nI (usF H.1 kd px py need (H.1 - m) j)) →
        cx_OK none mM_findRoots (dd + 2) 0 0 (fun r w2 _ => r = none ∧ (∃ lv rt gt rd, MrW w2 lv rt gt rd ∧ BR 48 lv (fun j => lvF H.1 kd px py need j = true) ∧ BR 48 rt (fun j => j < H.1 ∧ rtF H.1 kd px py need j = true) ∧ BR 48 gt (fun _ => False) ∧ ∀ j, j < 48 → rd j = nI (usF H.1 kd px py need H.1 j)) ∧ ∀ k, fr4 k → w2 k = w k) 111 [some (.ref 45), some (.int (nI m + -1))] [] w2 (87, 0, 0) := by
      intro w2 lv2 rd2 a b c d
      have := ih w2 lv2 rt gt rd2 (by omega) a (fun k q => (b k q).trans (hk k q)) c bg d bt
      rw [Int32.sub_eq_add_neg] at this
      exact this
    have same : ¬ ((need m = true ∨ 0 < usF H.1 kd px py need (H.1 - (m + 1)) m) ∧ (kd m = 2 ∨ kd m = 3)) → ∀ j, usF H.1 kd px py need (H.1 - m) j = usF H.1 kd px py need (H.1 - (m + 1)) j := fun c j => by
      rw [es, usF, eu, if_neg c]; rfl
    have one : (need m = true ∨ 0 < usF H.1 kd px py need (H.1 - (m + 1)) m) → kd m = 2 → ∀ j, usF H.1 kd px py need (H.1 - m) j = usF H.1 kd px py need (H.1 - (m + 1)) j + (if px m = j then 1 else 0) := fun c h j => by
      rw [es, usF, eu, if_pos (show (need m = true ∨ 0 < usF H.1 kd px py need (H.1 - (m + 1)) m) ∧ (kd m = 2 ∨ kd m = 3) from ⟨c, .inl h⟩), if_neg (show ¬ (kd m = 3 ∧ py m = j) by omega)]; rfl
    have two : (need m = true ∨ 0 < usF H.1 kd px py need (H.1 - (m + 1)) m) → kd m = 3 → ∀ j, usF H.1 kd px py need (H.1 - m) j = (usF H.1 kd px py need (H.1 - (m + 1)) j + (if px m = j then 1 else 0)) + (if py m = j then 1 else 0) := fun c h j => by
      have e0 : (if py m = j then 1 else 0 : Nat) = (if kd m = 3 ∧ py m = j then 1 else 0) := by
        by_cases e : py m = j
        · rw [if_pos e, if_pos ⟨h, e⟩]
        · rw [if_neg e, if_neg (fun z => e z.2)]
      rw [es, usF, eu, if_pos (show (need m = true ∨ 0 < usF H.1 kd px py need (H.1 - (m + 1)) m) ∧ (kd m = 2 ∨ kd m = 3) from ⟨c, .inr h⟩), e0, Nat.add_assoc]
    refine cx_run 100 mM_findRoots_mo ?_
    rw [nI_pred]
    by_cases c : need m = true ∨ 0 < usF H.1 kd px py need (H.1 - (m + 1)) m
    · have F : lv m = 1 := (bl m (by omega)).1 c
      rcases (show kd m = 0 ∨ kd m = 1 ∨ kd m = 2 ∨ kd m = 3 by omega) with kk | kk | kk | kk
      · have KD : H.2.1 m = 0 := by rw [d1, kk]; rfl
        have sm := same (fun z => by omega)
        simp (decide := true) only [KD, BmM_findRoots, BSM, k45, k56, m64, v1, hlt, F, nI_clamp (n := m) (by omega), nI_1, EV, EW, CT, ev_o, ev_is, ev_gd, List.length_cons, List.length_nil, Nat.reduceLT, Nat.reduceAdd, Nat.reduceEqDiff, Nat.reduceLeDiff, Int32.reduceLT, Int32.reduceLE, reduceIte, true_and, and_true, true_or, or_true, not_true_eq_false, not_false_eq_true, false_imp_iff, true_imp_iff, implies_true]
        exact nx w1 lv rd hM' (fun _ _ => rfl) (bl.congr fun j _ => by rw [sm j]) (fun j hj => by rw [sm j]; exact br j hj)
      · have KD : H.2.1 m = 1 := by rw [d1, kk]; rfl
        have sm := same (fun z => by omega)
        simp (decide := true) only [KD, BmM_findRoots, BSM, k45, k56, m64, v1, hlt, F, nI_clamp (n := m) (by omega), nI_1, EV, EW, CT, ev_o, ev_is, ev_gd, List.length_cons, List.length_nil, Nat.reduceLT, Nat.reduceAdd, Nat.reduceEqDiff, Nat.reduceLeDiff, Int32.reduceLT, Int32.reduceLE, reduceIte, true_and, and_true, true_or, or_true, not_true_eq_false, not_false_eq_true, false_imp_iff, true_imp_iff, implies_true]
        exact nx w1 lv rd hM' (fun _ _ => rfl) (bl.congr fun j _ => by rw [sm j]) (fun j hj => by rw [sm j]; exact br j hj)
      · have KD : H.2.1 m = 3 := by rw [d1, kk]; rfl
        have ⟨x1, x2⟩ := d3 (.inl kk)
        have vx : vp_in (nI (px m)) 48 := nI_in (by omega) (by decide)
        have sm := one c kk
        simp (decide := true) only [KD, x1, vx, k57, m66, nI_clamp (n := px m) (by omega), BmM_findRoots, BSM, k45, k56, m64, v1, hlt, F, nI_clamp (n := m) (by omega), nI_1, EV, EW, CT, ev_o, ev_is, ev_gd, List.length_cons, List.length_nil, Nat.reduceLT, Nat.reduceAdd, Nat.reduceEqDiff, Nat.reduceLeDiff, Int32.reduceLT, Int32.reduceLE, reduceIte, true_and, and_true, true_or, or_true, not_true_eq_false, not_false_eq_true, false_imp_iff, true_imp_iff, implies_true]
        refine nx _ (upd lv (px m) 1) (upd rd (px m) (rd (px m) + 1)) ⟨by simp only [cx_up, Nat.reduceEqDiff, reduceIte], by simp only [cx_up, Nat.reduceEqDiff, reduceIte]; exact m65, by simp only [cx_up, Nat.reduceEqDiff, reduceIte]; exact m70, by simp only [cx_up, Nat.reduceEqDiff, reduceIte]⟩ (fun k q => by unfold fr4 at q; simp (disch := omega) only [cx_up, if_neg]) (bl.set.congr fun j _ => ?_) (fun j hj => by rw [sm j]; exact inc_at br (by omega) j hj)
        rw [sm j]
        by_cases e : px m = j
        · rw [if_pos e]; exact ⟨fun _ => .inr (by omega), fun _ => .inr e.symm⟩
        · rw [if_neg e]; exact ⟨fun h => h.elim id fun z => absurd z.symm e, .inl⟩
      · have KD : H.2.1 m = 2 := by rw [d1, kk]; rfl
        have ⟨x1, x2⟩ := d3 (.inr kk)
        have ⟨y1, y2, y3⟩ := d4 kk
        have vx : vp_in (nI (px m)) 48 := nI_in (by omega) (by decide)
        have vy : vp_in (nI (py m)) 48 := nI_in (by omega) (by decide)
        have sm := two c kk
        simp (decide := true) only [KD, x1, y1, vx, vy, k57, k58, m66, nI_clamp (n := px m) (by omega), nI_clamp (n := py m) (by omega), BmM_findRoots, BSM, k45, k56, m64, v1, hlt, F, nI_clamp (n := m) (by omega), nI_1, EV, EW, CT, ev_o, ev_is, ev_gd, List.length_cons, List.length_nil, Nat.reduceLT, Nat.reduceAdd, Nat.reduceEqDiff, Nat.reduceLeDiff, Int32.reduceLT, Int32.reduceLE, reduceIte, true_and, and_true, true_or, or_true, not_true_eq_false, not_false_eq_true, false_imp_iff, true_imp_iff, implies_true]
        refine nx _ (upd (upd lv (px m) 1) (py m) 1) (upd (upd rd (px m) (rd (px m) + 1)) (py m) (upd rd (px m) (rd (px m) + 1) (py m) + 1)) ⟨by simp only [cx_up, Nat.reduceEqDiff, reduceIte], by simp only [cx_up, Nat.reduceEqDiff, reduceIte]; exact m65, by simp only [cx_up, Nat.reduceEqDiff, reduceIte]; exact m70, by simp only [cx_up, Nat.reduceEqDiff, reduceIte]⟩ (fun k q => by unfold fr4 at q; simp (disch := omega) only [cx_up, if_neg]) (bl.set.set.congr fun j _ => ?_) (fun j hj => by rw [sm j]; exact inc_at (inc_at br (by omega)) (by omega) j hj)
        rw [sm j]
        by_cases e : px m = j
        · rw [if_pos e]; exact ⟨fun _ => .inr (by omega), fun _ => .inl (.inr e.symm)⟩
        · rw [if_neg e]
          by_cases e2 : py m = j
          · rw [if_pos e2]; exact ⟨fun _ => .inr (by omega), fun _ => .inr e2.symm⟩
          · rw [if_neg e2]; exact ⟨fun h => h.elim (fun h => h.elim id fun z => absurd z.symm e) fun z => absurd z.symm e2, fun h => .inl (.inl h)⟩
    · have F : lv m = 0 := (bl m (by omega)).2 c
      have sm := same (fun z => c z.1)
      simp (decide := true) only [BmM_findRoots, BSM, k45, k56, m64, v1, hlt, F, nI_clamp (n := m) (by omega), nI_1, EV, EW, CT, ev_o, ev_is, ev_gd, List.length_cons, List.length_nil, Nat.reduceLT, Nat.reduceAdd, Nat.reduceEqDiff, Nat.reduceLeDiff, Int32.reduceLT, Int32.reduceLE, reduceIte, true_and, and_true, true_or, or_true, not_true_eq_false, not_false_eq_true, false_imp_iff, true_imp_iff, implies_true]
      exact nx w1 lv rd hM' (fun _ _ => rfl) (bl.congr fun j _ => by rw [sm j]) (fun j hj => by rw [sm j]; exact br j hj)
/-- the driving nodes, net by net -/
def DrvN (H : Gr) (nc : Nat) (so dr na : Nat → Int32) (dn : Nat → Nat) : Prop := ∀ i, i < nc → so i = 1 → vp_in (dr i) 40 ∧ na (dr i).toNatClampNeg = nI (dn i) ∧ dn i < H.1
set_option maxHeartbeats 16000000 in
theorem fr_loop3 {w : cx_W} {H : Gr} {kd px py : Nat → Nat} {need : Nat → Bool} {nc oc : Nat} {x1 x2 x5 x6 x7 x8 x9 : Int32} {dd : Nat} {so na dr on : Nat → Int32} {dn ond : Nat → Nat} (h45 : w 45 = oM (nI nc) x1 x2 (nI H.1) (nI oc) x5 x6 x7 x8 x9) (h56 : w 56 = ai 48 H.2.1) (h57 : w 57 = ai 48 H.2.2.1) (h58 : w 58 = ai 48 H.2.2.2) (hn : H.1 ≤ 48) (hK : GKM H kd px py) (h46 : w 46 = ai 40 so) (h47 : w 47 = ai 40 na) (h50 : w 50 = ai 40 dr) (h60 : w 60 = ai 4 on) (hnc : nc ≤ 40) (hDn : DrvN H nc so dr na dn) (hneed : ∀ j, need j = true ↔ ((∃ o, o < oc ∧ ond o = j) ∨ ∃ i, i < nc ∧ so i = 1 ∧ dn i = j)) (hlt : ∀ j, need j = true → j < H.1) :
    ∀ (m i : Nat) (w1 : cx_W) (lv rt gt rd : Nat → Int32), i + m = nc → MrW w1 lv rt gt rd → (∀ k, fr4 k → w1 k = w k) → BR 48 lv (fun j => (∃ o, o < oc ∧ ond o = j) ∨ ∃ i2, i2 < i ∧ so i2 = 1 ∧ dn i2 = j) → BR 48 gt (fun _ => False) → (∀ j, j < 48 → rd j = nI 0) → BR 48 rt (fun j => j < H.1 ∧ (kd j = 2 ∨ kd j = 3) ∧ ((∃ o, o < oc ∧ ond o = j) ∨ ∃ i2, i2 < i ∧ so i2 = 1 ∧ dn i2 = j)) →
    cx_OK none mM_findRoots (dd + 2) 0 0 (fun r w2 _ => r = none ∧ (∃ lv rt gt rd, MrW w2 lv rt gt rd ∧ BR 48 lv (fun j => lvF H.1 kd px py need j = true) ∧ BR 48 rt (fun j => j < H.1 ∧ rtF H.1 kd px py need j = true) ∧ BR 48 gt (fun _ => False) ∧ ∀ j, j < 48 → rd j = nI (usF H.1 kd px py need H.1 j)) ∧ ∀ k, fr4 k → w2 k = w k) 70 [some (.ref 45), some (.int (nI i))] [] w1 (87, 0, 0) := by
  intro m
  induction m with
  | zero =>
    intro i w1 lv rt gt rd hi hM hk bl bg br bt
    have e : i = nc := by omega
    subst e
    have E := leT (a := i) (b := i) (by omega) (by omega)
    have k45 := (hk 45 (by unfold fr4; decide)).trans h45
    refine cx_run 60 mM_findRoots_mo ?_
    simp (decide := true) only [BmM_findRoots, k45, E, EV, EW, CT, ev_o, ev_is, ev_gd, List.length_cons, List.length_nil, Nat.reduceLT, Nat.reduceAdd, Nat.reduceEqDiff, Nat.reduceLeDiff, Int32.reduceLT, Int32.reduceLE, reduceIte, true_and, and_true, true_or, or_true, not_true_eq_false, not_false_eq_true, false_imp_iff, true_imp_iff, implies_true]
    refine fr_loop4 (w := w) h45 h56 h57 h58 hn hK hlt H.1 w1 lv rt gt rd (Nat.le_refl _) hM hk (bl.congr fun j _ => ?_) bg (fun j hj => by rw [Nat.sub_self]; exact br j hj) (bt.congr fun j _ => by rw [hneed j])
    rw [Nat.sub_self, hneed j]
    exact ⟨.inl, fun h => h.elim id fun z => absurd z (Nat.lt_irrefl 0)⟩
  | succ m ih =>
    intro i w1 lv rt gt rd hi hM hk bl bg br bt
    have hM' := hM
    obtain ⟨m64, m65, m70, m66⟩ := hM
    have E := leF (a := nc) (b := i) (by omega) (by omega)
    have k45 := (hk 45 (by unfold fr4; decide)).trans h45
    have k46 := (hk 46 (by unfold fr4; decide)).trans h46
    have k47 := (hk 47 (by unfold fr4; decide)).trans h47
    have k50 := (hk 50 (by unfold fr4; decide)).trans h50
    have k56 := (hk 56 (by unfold fr4; decide)).trans h56
    have v1 : vp_in (nI i) 40 := nI_in (by omega) (by decide)
    refine cx_run 60 mM_findRoots_mo ?_
    by_cases q : so i = 1
    · have ⟨o1, o2, o3⟩ := hDn i (by omega) q
      have v2 : vp_in (nI (dn i)) 48 := nI_in (by omega) (by decide)
      have ⟨d1, d2, d3, d4⟩ := hK (dn i) o3
      have st : ∀ j, ((∃ o, o < oc ∧ ond o = j) ∨ ∃ i2, i2 < i + 1 ∧ so i2 = 1 ∧ dn i2 = j) ↔ (((∃ o, o < oc ∧ ond o = j) ∨ ∃ i2, i2 < i ∧ so i2 = 1 ∧ dn i2 = j) ∨ j = dn i) := fun j => by
        constructor
        · rintro (h | ⟨i2, h1, h2, h3⟩)
          · exact .inl (.inl h)
          · by_cases e : i2 = i
            · exact .inr (by rw [← h3, e])
            · exact .inl (.inr ⟨i2, by omega, h2, h3⟩)
        · rintro ((h | ⟨i2, h1, h2, h3⟩) | h)
          · exact .inl h
          · exact .inr ⟨i2, by omega, h2, h3⟩
          · exact .inr ⟨i, by omega, q, h.symm⟩
      have nx : ∀ x : Int32, ((kd (dn i) = 2 ∨ kd (dn i) = 3) → x = 1) → (¬ (kd (dn i) = 2 ∨ kd (dn i) = 3) → x = 0) → cx_OK none mM_findRoots (dd + 2) 0 0 (fun r w2 _ => r = none ∧ (∃ lv rt gt rd, MrW w2 lv rt gt rd ∧ BR 48 lv (fun j => lvF H.1 kd px py need j = true) ∧ BR 48 rt (fun j => j < H.1 ∧ rtF H.1 kd px py need j = true) ∧ BR 48 gt (fun _ => False) ∧ ∀ j, j < 48 → rd j = nI (usF H.1 kd px py need H.1 j)) ∧ ∀ k, fr4 k → w2 k = w k) 70 [some (.ref 45), some (.int (nI (i + 1)))] [] (cx_up (cx_up w1 64 (az 48 (upd lv (dn i) 1))) 65 (az 48 (upd rt (dn i) x))) (87, 0, 0) := by
        intro x a b
        refine ih (i + 1) _ (upd lv (dn i) 1) (upd rt (dn i) x) gt rd (by omega) ⟨by simp only [cx_up, Nat.reduceEqDiff, reduceIte], by simp only [cx_up, Nat.reduceEqDiff, reduceIte], by simp only [cx_up, Nat.reduceEqDiff, reduceIte]; exact m70, by simp only [cx_up, Nat.reduceEqDiff, reduceIte]; exact m66⟩ (fun k z => by rw [← hk k z]; unfold fr4 at z; simp (disch := omega) only [cx_up, if_neg]) (bl.set.congr fun j _ => (st j).symm) bg br (bt.put (fun h => a h.2.1) (fun h => b fun z => h ⟨o3, z, (st _).mpr (.inr rfl)⟩) (fun j _ hj => ?_))
        rw [st j]
        exact ⟨fun h => ⟨h.1, h.2.1, .inl h.2.2⟩, fun h => ⟨h.1, h.2.1, h.2.2.elim id fun z => absurd z hj⟩⟩
      rcases (show kd (dn i) = 0 ∨ kd (dn i) = 1 ∨ kd (dn i) = 2 ∨ kd (dn i) = 3 by omega) with kk | kk | kk | kk
      · have KD : H.2.1 (dn i) = 0 := by rw [d1, kk]; rfl
        simp (decide := true) only [KD, BmM_findRoots, BSM, k45, k46, k47, k50, k56, m64, m65, E, v1, v2, o1, o2, q, nI_clamp (n := i) (by omega), nI_clamp (n := dn i) (by omega), nI_1, EV, EW, CT, ev_o, ev_is, ev_gd, List.length_cons, List.length_nil, Nat.reduceLT, Nat.reduceAdd, Nat.reduceEqDiff, Nat.reduceLeDiff, Int32.reduceLT, Int32.reduceLE, reduceIte, true_and, and_true, true_or, or_true, not_true_eq_false, not_false_eq_true, false_imp_iff, true_imp_iff, implies_true]
        exact nx 0 (fun h => by omega) (fun _ => rfl)
      · have KD : H.2.1 (dn i) = 1 := by rw [d1, kk]; rfl
        simp (decide := true) only [KD, BmM_findRoots, BSM, k45, k46, k47, k50, k56, m64, m65, E, v1, v2, o1, o2, q, nI_clamp (n := i) (by omega), nI_clamp (n := dn i) (by omega), nI_1, EV, EW, CT, ev_o, ev_is, ev_gd, List.length_cons, List.length_nil, Nat.reduceLT, Nat.reduceAdd, Nat.reduceEqDiff, Nat.reduceLeDiff, Int32.reduceLT, Int32.reduceLE, reduceIte, true_and, and_true, true_or, or_true, not_true_eq_false, not_false_eq_true, false_imp_iff, true_imp_iff, implies_true]
        exact nx 0 (fun h => by omega) (fun _ => rfl)
      · have KD : H.2.1 (dn i) = 3 := by rw [d1, kk]; rfl
        simp (decide := true) only [KD, BmM_findRoots, BSM, k45, k46, k47, k50, k56, m64, m65, E, v1, v2, o1, o2, q, nI_clamp (n := i) (by omega), nI_clamp (n := dn i) (by omega), nI_1, EV, EW, CT, ev_o, ev_is, ev_gd, List.length_cons, List.length_nil, Nat.reduceLT, Nat.reduceAdd, Nat.reduceEqDiff, Nat.reduceLeDiff, Int32.reduceLT, Int32.reduceLE, reduceIte, true_and, and_true, true_or, or_true, not_true_eq_false, not_false_eq_true, false_imp_iff, true_imp_iff, implies_true]
        exact nx 1 (fun _ => rfl) (fun h => by omega)
      · have KD : H.2.1 (dn i) = 2 := by rw [d1, kk]; rfl
        simp (decide := true) only [KD, BmM_findRoots, BSM, k45, k46, k47, k50, k56, m64, m65, E, v1, v2, o1, o2, q, nI_clamp (n := i) (by omega), nI_clamp (n := dn i) (by omega), nI_1, EV, EW, CT, ev_o, ev_is, ev_gd, List.length_cons, List.length_nil, Nat.reduceLT, Nat.reduceAdd, Nat.reduceEqDiff, Nat.reduceLeDiff, Int32.reduceLT, Int32.reduceLE, reduceIte, true_and, and_true, true_or, or_true, not_true_eq_false, not_false_eq_true, false_imp_iff, true_imp_iff, implies_true]
        exact nx 1 (fun _ => rfl) (fun h => by omega)
    · simp (decide := true) only [BmM_findRoots, BSM, k45, k46, E, v1, q, nI_clamp (n := i) (by omega), nI_1, EV, EW, CT, ev_o, ev_is, ev_gd, List.length_cons, List.length_nil, Nat.reduceLT, Nat.reduceAdd, Nat.reduceEqDiff, Nat.reduceLeDiff, Int32.reduceLT, Int32.reduceLE, reduceIte, true_and, and_true, true_or, or_true, not_true_eq_false, not_false_eq_true, false_imp_iff, true_imp_iff, implies_true]
      have st : ∀ j, (∃ i2, i2 < i + 1 ∧ so i2 = 1 ∧ dn i2 = j) ↔ (∃ i2, i2 < i ∧ so i2 = 1 ∧ dn i2 = j) := fun j => ⟨fun ⟨i2, h1, h2, h3⟩ => ⟨i2, by
        by_cases e : i2 = i
        · rw [e] at h2; exact absurd h2 q
        · omega, h2, h3⟩, fun ⟨i2, h1, h2, h3⟩ => ⟨i2, by omega, h2, h3⟩⟩
      exact ih (i + 1) w1 lv rt gt rd (by omega) hM' hk (bl.congr fun j _ => by rw [st j]) bg br (bt.congr fun j _ => by rw [st j])
