/-! Roots, the reference: the whole. Printed by gen_20c.py. -/
def OutM (H : Gr) (oc : Nat) (na on : Nat → Int32) (ond : Nat → Nat) : Prop := ∀ o, o < oc → vp_in (on o) 40 ∧ na (on o).toNatClampNeg = nI (ond o) ∧ ond o < H.1
set_option maxHeartbeats 16000000 in
theorem fr_loop2 {w : cx_W} {H : Gr} {kd px py : Nat → Nat} {need : Nat → Bool} {nc oc : Nat} {x1 x2 x5 x6 x7 x8 x9 : Int32} {dd : Nat} {so na dr on : Nat → Int32} {dn ond : Nat → Nat} (h45 : w 45 = oM (nI nc) x1 x2 (nI H.1) (nI oc) x5 x6 x7 x8 x9) (h56 : w 56 = ai 48 H.2.1) (h57 : w 57 = ai 48 H.2.2.1) (h58 : w 58 = ai 48 H.2.2.2) (hn : H.1 ≤ 48) (hK : GKM H kd px py) (h46 : w 46 = ai 40 so) (h47 : w 47 = ai 40 na) (h50 : w 50 = ai 40 dr) (h60 : w 60 = ai 4 on) (hnc : nc ≤ 40) (hoc : oc ≤ 4) (hDn : DrvN H nc so dr na dn) (hO : OutM H oc na on ond) (hneed : ∀ j, need j = true ↔ ((∃ o, o < oc ∧ ond o = j) ∨ ∃ i, i < nc ∧ so i = 1 ∧ dn i = j)) (hlt : ∀ j, need j = true → j < H.1) :
    ∀ (m i : Nat) (w1 : cx_W) (lv rt gt rd : Nat → Int32), i + m = oc → MrW w1 lv rt gt rd → (∀ k, fr4 k → w1 k = w k) → BR 48 lv (fun j => ∃ o, o < i ∧ ond o = j) → BR 48 gt (fun _ => False) → (∀ j, j < 48 → rd j = nI 0) → BR 48 rt (fun j => j < H.1 ∧ (kd j = 2 ∨ kd j = 3) ∧ ∃ o, o < i ∧ ond o = j) →
    cx_OK none mM_findRoots (dd + 2) 0 0 (fun r w2 _ => r = none ∧ (∃ lv rt gt rd, MrW w2 lv rt gt rd ∧ BR 48 lv (fun j => lvF H.1 kd px py need j = true) ∧ BR 48 rt (fun j => j < H.1 ∧ rtF H.1 kd px py need j = true) ∧ BR 48 gt (fun _ => False) ∧ ∀ j, j < 48 → rd j = nI (usF H.1 kd px py need H.1 j)) ∧ ∀ k, fr4 k → w2 k = w k) 44 [some (.ref 45), some (.int (nI i))] [] w1 (87, 0, 0) := by
  intro m
  induction m with
  | zero =>
    intro i w1 lv rt gt rd hi hM hk bl bg br bt
    have e : i = oc := by omega
    subst e
    have E := leT (a := i) (b := i) (by omega) (by omega)
    have k45 := (hk 45 (by unfold fr4; decide)).trans h45
    refine cx_run 60 mM_findRoots_mo ?_
    simp (decide := true) only [BmM_findRoots, k45, E, EV, EW, CT, ev_o, ev_is, ev_gd, List.length_cons, List.length_nil, Nat.reduceLT, Nat.reduceAdd, Nat.reduceEqDiff, Nat.reduceLeDiff, Int32.reduceLT, Int32.reduceLE, reduceIte, true_and, and_true, true_or, or_true, not_true_eq_false, not_false_eq_true, false_imp_iff, true_imp_iff, implies_true]
    have st : ∀ j, (∃ o, o < i ∧ ond o = j) ↔ ((∃ o, o < i ∧ ond o = j) ∨ ∃ i2, i2 < 0 ∧ so i2 = 1 ∧ dn i2 = j) := fun j => ⟨.inl, fun h => h.elim id fun ⟨i2, z, _⟩ => by omega⟩
    exact fr_loop3 (w := w) (on := on) h45 h56 h57 h58 hn hK h46 h47 h50 h60 hnc hDn hneed hlt nc 0 w1 lv rt gt rd (by omega) hM hk (bl.congr fun j _ => st j) bg br (bt.congr fun j _ => by rw [← st j])
  | succ m ih =>
    intro i w1 lv rt gt rd hi hM hk bl bg br bt
    have hM' := hM
    obtain ⟨m64, m65, m70, m66⟩ := hM
    have E := leF (a := oc) (b := i) (by omega) (by omega)
    have k45 := (hk 45 (by unfold fr4; decide)).trans h45
    have k47 := (hk 47 (by unfold fr4; decide)).trans h47
    have k60 := (hk 60 (by unfold fr4; decide)).trans h60
    have k56 := (hk 56 (by unfold fr4; decide)).trans h56
    have v1 : vp_in (nI i) 4 := nI_in (by omega) (by decide)
    have ⟨o1, o2, o3⟩ := hO i (by omega)
    have v2 : vp_in (nI (ond i)) 48 := nI_in (by omega) (by decide)
    have ⟨d1, d2, d3, d4⟩ := hK (ond i) o3
    have st : ∀ j, (∃ o, o < i + 1 ∧ ond o = j) ↔ ((∃ o, o < i ∧ ond o = j) ∨ j = ond i) := fun j => by
      constructor
      · rintro ⟨i2, h1, h3⟩
        by_cases e : i2 = i
        · exact .inr (by rw [← h3, e])
        · exact .inl ⟨i2, by omega, h3⟩
      · rintro (⟨i2, h1, h3⟩ | h)
        · exact ⟨i2, by omega, h3⟩
        · exact ⟨i, by omega, h.symm⟩
    have nx : ∀ x : Int32, ((kd (ond i) = 2 ∨ kd (ond i) = 3) → x = 1) → (¬ (kd (ond i) = 2 ∨ kd (ond i) = 3) → x = 0) → cx_OK none mM_findRoots (dd + 2) 0 0 (fun r w2 _ => r = none ∧ (∃ lv rt gt rd, MrW w2 lv rt gt rd ∧ BR 48 lv (fun j => lvF H.1 kd px py need j = true) ∧ BR 48 rt (fun j => j < H.1 ∧ rtF H.1 kd px py need j = true) ∧ BR 48 gt (fun _ => False) ∧ ∀ j, j < 48 → rd j = nI (usF H.1 kd px py need H.1 j)) ∧ ∀ k, fr4 k → w2 k = w k) 44 [some (.ref 45), some (.int (nI (i + 1)))] [] (cx_up (cx_up w1 64 (az 48 (upd lv (ond i) 1))) 65 (az 48 (upd rt (ond i) x))) (87, 0, 0) := by
      intro x a b
      refine ih (i + 1) _ (upd lv (ond i) 1) (upd rt (ond i) x) gt rd (by omega) ⟨by simp only [cx_up, Nat.reduceEqDiff, reduceIte], by simp only [cx_up, Nat.reduceEqDiff, reduceIte], by simp only [cx_up, Nat.reduceEqDiff, reduceIte]; exact m70, by simp only [cx_up, Nat.reduceEqDiff, reduceIte]; exact m66⟩ (fun k z => by rw [← hk k z]; unfold fr4 at z; simp (disch := omega) only [cx_up, if_neg]) (bl.set.congr fun j _ => (st j).symm) bg br (bt.put (fun h => a h.2.1) (fun h => b fun z => h ⟨o3, z, (st _).mpr (.inr rfl)⟩) (fun j _ hj => ?_))
      rw [st j]
      exact ⟨fun h => ⟨h.1, h.2.1, .inl h.2.2⟩, fun h => ⟨h.1, h.2.1, h.2.2.elim id fun z => absurd z hj⟩⟩
    refine cx_run 60 mM_findRoots_mo ?_
    rcases (show kd (ond i) = 0 ∨ kd (ond i) = 1 ∨ kd (ond i) = 2 ∨ kd (ond i) = 3 by omega) with kk | kk | kk | kk
    · have KD : H.2.1 (ond i) = 0 := by rw [d1, kk]; rfl
      simp (decide := true) only [KD, BmM_findRoots, BSM, k45, k47, k60, k56, m64, m65, E, v1, v2, o1, o2, nI_clamp (n := i) (by omega), nI_clamp (n := ond i) (by omega), nI_1, EV, EW, CT, ev_o, ev_is, ev_gd, List.length_cons, List.length_nil, Nat.reduceLT, Nat.reduceAdd, Nat.reduceEqDiff, Nat.reduceLeDiff, Int32.reduceLT, Int32.reduceLE, reduceIte, true_and, and_true, true_or, or_true, not_true_eq_false, not_false_eq_true, false_imp_iff, true_imp_iff, implies_true]
      exact nx 0 (fun h => by omega) (fun _ => rfl)
    · have KD : H.2.1 (ond i) = 1 := by rw [d1, kk]; rfl
      simp (decide := true) only [KD, BmM_findRoots, BSM, k45, k47, k60, k56, m64, m65, E, v1, v2, o1, o2, nI_clamp (n := i) (by omega), nI_clamp (n := ond i) (by omega), nI_1, EV, EW, CT, ev_o, ev_is, ev_gd, List.length_cons, List.length_nil, Nat.reduceLT, Nat.reduceAdd, Nat.reduceEqDiff, Nat.reduceLeDiff, Int32.reduceLT, Int32.reduceLE, reduceIte, true_and, and_true, true_or, or_true, not_true_eq_false, not_false_eq_true, false_imp_iff, true_imp_iff, implies_true]
      exact nx 0 (fun h => by omega) (fun _ => rfl)
    · have KD : H.2.1 (ond i) = 3 := by rw [d1, kk]; rfl
      simp (decide := true) only [KD, BmM_findRoots, BSM, k45, k47, k60, k56, m64, m65, E, v1, v2, o1, o2, nI_clamp (n := i) (by omega), nI_clamp (n := ond i) (by omega), nI_1, EV, EW, CT, ev_o, ev_is, ev_gd, List.length_cons, List.length_nil, Nat.reduceLT, Nat.reduceAdd, Nat.reduceEqDiff, Nat.reduceLeDiff, Int32.reduceLT, Int32.reduceLE, reduceIte, true_and, and_true, true_or, or_true, not_true_eq_false, not_false_eq_true, false_imp_iff, true_imp_iff, implies_true]
      exact nx 1 (fun _ => rfl) (fun h => by omega)
    · have KD : H.2.1 (ond i) = 2 := by rw [d1, kk]; rfl
      simp (decide := true) only [KD, BmM_findRoots, BSM, k45, k47, k60, k56, m64, m65, E, v1, v2, o1, o2, nI_clamp (n := i) (by omega), nI_clamp (n := ond i) (by omega), nI_1, EV, EW, CT, ev_o, ev_is, ev_gd, List.length_cons, List.length_nil, Nat.reduceLT, Nat.reduceAdd, Nat.reduceEqDiff, Nat.reduceLeDiff, Int32.reduceLT, Int32.reduceLE, reduceIte, true_and, and_true, true_or, or_true, not_true_eq_false, not_false_eq_true, false_imp_iff, true_imp_iff, implies_true]
      exact nx 1 (fun _ => rfl) (fun h => by omega)
set_option maxHeartbeats 16000000 in
theorem fr_loop1 {w : cx_W} {H : Gr} {kd px py : Nat → Nat} {need : Nat → Bool} {nc oc : Nat} {x1 x2 x5 x6 x7 x8 x9 : Int32} {dd : Nat} {so na dr on : Nat → Int32} {dn ond : Nat → Nat} (h45 : w 45 = oM (nI nc) x1 x2 (nI H.1) (nI oc) x5 x6 x7 x8 x9) (h56 : w 56 = ai 48 H.2.1) (h57 : w 57 = ai 48 H.2.2.1) (h58 : w 58 = ai 48 H.2.2.2) (hn : H.1 ≤ 48) (hK : GKM H kd px py) (h46 : w 46 = ai 40 so) (h47 : w 47 = ai 40 na) (h50 : w 50 = ai 40 dr) (h60 : w 60 = ai 4 on) (hnc : nc ≤ 40) (hoc : oc ≤ 4) (hDn : DrvN H nc so dr na dn) (hO : OutM H oc na on ond) (hneed : ∀ j, need j = true ↔ ((∃ o, o < oc ∧ ond o = j) ∨ ∃ i, i < nc ∧ so i = 1 ∧ dn i = j)) (hlt : ∀ j, need j = true → j < H.1) :
    ∀ (m i : Nat) (w1 : cx_W) (lv rt gt rd : Nat → Int32), i + m = 48 → MrW w1 lv rt gt rd → (∀ k, fr4 k → w1 k = w k) → BR i lv (fun _ => False) → BR i gt (fun _ => False) → (∀ j, j < i → rd j = nI 0) → BR i rt (fun _ => False) →
    cx_OK none mM_findRoots (dd + 2) 0 0 (fun r w2 _ => r = none ∧ (∃ lv rt gt rd, MrW w2 lv rt gt rd ∧ BR 48 lv (fun j => lvF H.1 kd px py need j = true) ∧ BR 48 rt (fun j => j < H.1 ∧ rtF H.1 kd px py need j = true) ∧ BR 48 gt (fun _ => False) ∧ ∀ j, j < 48 → rd j = nI (usF H.1 kd px py need H.1 j)) ∧ ∀ k, fr4 k → w2 k = w k) 2 [some (.ref 45), some (.int (nI i))] [] w1 (87, 0, 0) := by
  intro m
  induction m with
  | zero =>
    intro i w1 lv rt gt rd hi hM hk bl bg br bt
    have e : i = 48 := by omega
    subst e
    have E : ((48 : Int32) ≤ nI 48) = True := eq_true (by decide)
    refine cx_run 60 mM_findRoots_mo ?_
    simp (decide := true) only [BmM_findRoots, E, EV, EW, CT, ev_o, ev_is, ev_gd, List.length_cons, List.length_nil, Nat.reduceLT, Nat.reduceAdd, Nat.reduceEqDiff, Nat.reduceLeDiff, Int32.reduceLT, Int32.reduceLE, reduceIte, true_and, and_true, true_or, or_true, not_true_eq_false, not_false_eq_true, false_imp_iff, true_imp_iff, implies_true]
    exact fr_loop2 (w := w) h45 h56 h57 h58 hn hK h46 h47 h50 h60 hnc hoc hDn hO hneed hlt oc 0 w1 lv rt gt rd (by omega) hM hk (bl.congr fun j _ => ⟨fun h => h.elim, fun ⟨o, z, _⟩ => by omega⟩) bg br (bt.congr fun j _ => ⟨fun h => h.elim, fun ⟨_, _, o, z, _⟩ => by omega⟩)
  | succ m ih =>
    intro i w1 lv rt gt rd hi hM hk bl bg br bt
    obtain ⟨m64, m65, m70, m66⟩ := hM
    have E : ((48 : Int32) ≤ nI i) = False := (lek (a := i) (c := 48) (x := 48) rfl (by omega) (by decide)).trans (eq_false (by omega))
    have k45 := (hk 45 (by unfold fr4; decide)).trans h45
    have v1 : vp_in (nI i) 48 := nI_in (by omega) (by decide)
    have ext : ∀ f : Nat → Int32, BR i f (fun _ => False) → BR (i + 1) (upd f i 0) (fun _ => False) := fun f h j hj => ⟨fun z => z.elim, fun _ => by
      by_cases e : j = i
      · rw [e]; exact pk_us
      · rw [pk_un e]; exact (h j (by omega)).2 id⟩
    refine cx_run 60 mM_findRoots_mo ?_
    simp (decide := true) only [BmM_findRoots, k45, m64, m65, m70, m66, E, v1, nI_clamp (n := i) (by omega), nI_1, EV, EW, CT, ev_o, ev_is, ev_gd, List.length_cons, List.length_nil, Nat.reduceLT, Nat.reduceAdd, Nat.reduceEqDiff, Nat.reduceLeDiff, Int32.reduceLT, Int32.reduceLE, reduceIte, true_and, and_true, true_or, or_true, not_true_eq_false, not_false_eq_true, false_imp_iff, true_imp_iff, implies_true]
    refine ih (i + 1) _ (upd lv i 0) (upd rt i 0) (upd gt i 0) (upd rd i 0) (by omega) ⟨by simp only [cx_up, Nat.reduceEqDiff, reduceIte], by simp only [cx_up, Nat.reduceEqDiff, reduceIte], by simp only [cx_up, Nat.reduceEqDiff, reduceIte], by simp only [cx_up, Nat.reduceEqDiff, reduceIte]⟩ (fun k z => by rw [← hk k z]; unfold fr4 at z; simp (disch := omega) only [cx_up, if_neg]) (ext lv bl) (ext gt bg) (fun j hj => ?_) (ext rt bt)
    by_cases e : j = i
    · rw [e]; exact pk_us
    · rw [pk_un e]; exact br j (by omega)
set_option maxHeartbeats 8000000 in
theorem c_M_findRoots {w : cx_W} {H : Gr} {kd px py : Nat → Nat} {need : Nat → Bool} {nc oc : Nat} {x1 x2 x5 x6 x7 x8 x9 : Int32} {dd : Nat} {so na dr on : Nat → Int32} {dn ond : Nat → Nat} (h45 : w 45 = oM (nI nc) x1 x2 (nI H.1) (nI oc) x5 x6 x7 x8 x9) (h56 : w 56 = ai 48 H.2.1) (h57 : w 57 = ai 48 H.2.2.1) (h58 : w 58 = ai 48 H.2.2.2) (hn : H.1 ≤ 48) (hK : GKM H kd px py) (h46 : w 46 = ai 40 so) (h47 : w 47 = ai 40 na) (h50 : w 50 = ai 40 dr) (h60 : w 60 = ai 4 on) {lv0 rt0 gt0 rd0 : Nat → Int32} (hM : MrW w lv0 rt0 gt0 rd0) (hnc : nc ≤ 40) (hoc : oc ≤ 4) (hDn : DrvN H nc so dr na dn) (hO : OutM H oc na on ond) (hneed : ∀ j, need j = true ↔ ((∃ o, o < oc ∧ ond o = j) ∨ ∃ i, i < nc ∧ so i = 1 ∧ dn i = j)) :
    cx_MC mM_findRoots (dd + 2) 0 0 [.ref 45] w 87 (fun r w2 => r = none ∧ (∃ lv rt gt rd, MrW w2 lv rt gt rd ∧ BR 48 lv (fun j => lvF H.1 kd px py need j = true) ∧ BR 48 rt (fun j => j < H.1 ∧ rtF H.1 kd px py need j = true) ∧ BR 48 gt (fun _ => False) ∧ ∀ j, j < 48 → rd j = nI (usF H.1 kd px py need H.1 j)) ∧ ∀ k, fr4 k → w2 k = w k) := by
  refine cx_met 60 mM_findRoots_ok rfl ?_
  show cx_vc 60 none mM_findRoots (dd + 2) 0 0 _ _ 0 [some (.ref 45), none] [] w (87, 0, 0)
  simp only [BmM_findRoots, EV, EW, CT, ev_o, ev_is, ev_gd, List.length_cons, List.length_nil, Nat.reduceLT, Nat.reduceAdd, Nat.reduceEqDiff, Nat.reduceLeDiff, Int32.reduceLT, Int32.reduceLE, reduceIte, true_and, and_true, true_or, or_true, not_true_eq_false, not_false_eq_true, false_imp_iff, true_imp_iff, implies_true]
  exact fr_loop1 (w := w) h45 h56 h57 h58 hn hK h46 h47 h50 h60 hnc hoc hDn hO hneed (fun j h => ((hneed j).mp h).elim (fun ⟨o, h1, h2⟩ => by rw [← h2]; exact (hO o h1).2.2) fun ⟨i, h1, h2, h3⟩ => by rw [← h3]; exact (hDn i h1 h2).2.2) 48 0 w lv0 rt0 gt0 rd0 (by omega) hM (fun _ _ => rfl) (fun j h => by omega) (fun j h => by omega) (fun j h => by omega) (fun j h => by omega)
