/-! The cover, the given side: needed nodes. Own work. -/
/-- a row of flags that says P -/
def BR (n : Nat) (f : Nat → Int32) (P : Nat → Prop) : Prop := ∀ j, j < n → (P j → f j = 1) ∧ (¬ P j → f j = 0)
theorem BR.set {n i : Nat} {f : Nat → Int32} {P : Nat → Prop} (h : BR n f P) : BR n (upd f i 1) (fun j => P j ∨ j = i) := by
  intro j hj
  by_cases e : j = i
  · subst e; exact ⟨fun _ => if_pos rfl, fun q => absurd (.inr rfl) q⟩
  · refine ⟨fun q => ?_, fun q => ?_⟩
    · rw [pk_un e]; exact (h j hj).1 (q.resolve_right e)
    · rw [pk_un e]; exact (h j hj).2 fun z => q (.inl z)
theorem BR.congr {n : Nat} {f : Nat → Int32} {P Q : Nat → Prop} (h : BR n f P) (e : ∀ j, j < n → (P j ↔ Q j)) : BR n f Q :=
  fun j hj => ⟨fun q => (h j hj).1 ((e j hj).mpr q), fun q => (h j hj).2 fun z => q ((e j hj).mp z)⟩
/-- the nodes as numbers: 2 INV, 3 NAND -/
def GK (G : Gr) (kd px py : Nat → Nat) : Prop := ∀ j, j < G.1 → G.2.1 j = nI (kd j) ∧ kd j < 4 ∧ ((kd j = 2 ∨ kd j = 3) → G.2.2.1 j = nI (px j) ∧ px j < j) ∧ (kd j = 3 → G.2.2.2 j = nI (py j) ∧ py j < j ∧ ¬ px j = py j)
def NeedP (oc lc : Nat) (ond drv : Nat → Nat) (j : Nat) : Prop := (∃ o, o < oc ∧ ond o = j) ∨ ∃ l, l < lc ∧ drv l = j
def OutC (G : Gr) (oc : Nat) (nn on : Nat → Int32) (ond : Nat → Nat) : Prop := ∀ o, o < oc → vp_in (on o) 40 ∧ nn (on o).toNatClampNeg = nI (ond o) ∧ ond o < G.1
set_option maxHeartbeats 4000000 in
theorem mn_loop3 {w : cx_W} {G : Gr} {nc ic lc oc : Nat} {ib pb : Int32} {nn nl dv on od : Nat → Int32} {drv ol ond : Nat → Nat} {dd : Nat} (hn : G.1 ≤ 48) (h20 : ∃ x, w 20 = oCo x) (hC : CW w nc ic lc oc ib pb nn nl dv on) (hlc : lc ≤ 6) (hD : DrvC G lc nn dv od drv ol) :
    ∀ (m l : Nat) (w1 : cx_W) (f : Nat → Int32), l + m = lc → w1 21 = az 48 f → (∀ k, ¬ k = 21 → w1 k = w k) → BR 48 f (fun j => (∃ o, o < oc ∧ ond o = j) ∨ ∃ l2, l2 < l ∧ drv l2 = j) →
    cx_OK none mCo_markNeeded (dd + 1) 0 0 (fun r w2 _ => r = none ∧ (∃ f, w2 21 = az 48 f ∧ BR 48 f (NeedP oc lc ond drv)) ∧ ∀ k, ¬ k = 21 → w2 k = w k) 56 [some (.ref 20), some (.int (nI l))] [] w1 (87, 0, 0) := by
  obtain ⟨x, h20⟩ := h20
  obtain ⟨h6, h7, h8, h9, h10⟩ := hC
  intro m
  induction m with
  | zero =>
    intro l w1 f hl h21 hk hf
    have E := leT (a := lc) (b := l) (by omega) (by omega)
    have k20 := (hk 20 (by decide)).trans h20
    have k6 := (hk 6 (by decide)).trans h6
    refine cx_run 60 mCo_markNeeded_mo ?_
    simp (decide := true) only [BmCo_markNeeded, BSC, k20, k6, E, EV, EW, CT, ev_o, ev_is, ev_gd, List.length_cons, List.length_nil, Nat.reduceLT, Nat.reduceAdd, Nat.reduceEqDiff, Nat.reduceLeDiff, Int32.reduceLT, Int32.reduceLE, reduceIte, true_and, and_true, true_or, or_true, not_true_eq_false, not_false_eq_true, false_imp_iff, true_imp_iff, implies_true]
    refine ⟨⟨f, h21, hf.congr fun j _ => ?_⟩, hk⟩
    have e : l = lc := by omega
    rw [e]; exact Iff.rfl
  | succ m ih =>
    intro l w1 f hl h21 hk hf
    have E := leF (a := lc) (b := l) (by omega) (by omega)
    have k20 := (hk 20 (by decide)).trans h20
    have k6 := (hk 6 (by decide)).trans h6
    have k7 := (hk 7 (by decide)).trans h7
    have k9 := (hk 9 (by decide)).trans h9
    have v1 : vp_in (nI l) 6 := nI_in (by omega) (by decide)
    have ⟨o1, o2, o3⟩ := hD.1 l (by omega)
    have v2 : vp_in (nI (drv l)) 48 := nI_in (by omega) (by decide)
    refine cx_run 60 mCo_markNeeded_mo ?_
    simp (decide := true) only [BmCo_markNeeded, BSC, k20, k6, k7, k9, h21, E, v1, v2, o1, o2, nI_clamp (n := l) (by omega), nI_clamp (n := drv l) (by omega), nI_1, EV, EW, CT, ev_o, ev_is, ev_gd, List.length_cons, List.length_nil, Nat.reduceLT, Nat.reduceAdd, Nat.reduceEqDiff, Nat.reduceLeDiff, Int32.reduceLT, Int32.reduceLE, reduceIte, true_and, and_true, true_or, or_true, not_true_eq_false, not_false_eq_true, false_imp_iff, true_imp_iff, implies_true]
    refine ih (l + 1) _ (upd f (drv l) 1) (by omega) (by simp only [cx_up, Nat.reduceEqDiff, reduceIte]) (fun k hk2 => by rw [← hk k hk2]; simp (disch := omega) only [cx_up, if_neg]) (hf.set.congr fun j _ => ?_)
    constructor
    · rintro ((h | ⟨l2, h1, h2⟩) | h)
      · exact .inl h
      · exact .inr ⟨l2, by omega, h2⟩
      · exact .inr ⟨l, by omega, h.symm⟩
    · rintro (h | ⟨l2, h1, h2⟩)
      · exact .inl (.inl h)
      · by_cases e : l2 = l
        · exact .inr (by rw [← h2, e])
        · exact .inl (.inr ⟨l2, by omega, h2⟩)
set_option maxHeartbeats 4000000 in
theorem mn_loop2 {w : cx_W} {G : Gr} {nc ic lc oc : Nat} {ib pb : Int32} {nn nl dv on od : Nat → Int32} {drv ol ond : Nat → Nat} {dd : Nat} (hn : G.1 ≤ 48) (h20 : ∃ x, w 20 = oCo x) (hC : CW w nc ic lc oc ib pb nn nl dv on) (hlc : lc ≤ 6) (hoc : oc ≤ 4) (hD : DrvC G lc nn dv od drv ol) (hO : OutC G oc nn on ond) :
    ∀ (m l : Nat) (w1 : cx_W) (f : Nat → Int32), l + m = oc → w1 21 = az 48 f → (∀ k, ¬ k = 21 → w1 k = w k) → BR 48 f (fun j => ∃ o, o < l ∧ ond o = j) →
    cx_OK none mCo_markNeeded (dd + 1) 0 0 (fun r w2 _ => r = none ∧ (∃ f, w2 21 = az 48 f ∧ BR 48 f (NeedP oc lc ond drv)) ∧ ∀ k, ¬ k = 21 → w2 k = w k) 23 [some (.ref 20), some (.int (nI l))] [] w1 (87, 0, 0) := by
  have h20' := h20
  have hC' := hC
  obtain ⟨x, h20⟩ := h20
  obtain ⟨h6, h7, h8, h9, h10⟩ := hC
  intro m
  induction m with
  | zero =>
    intro l w1 f hl h21 hk hf
    have E := leT (a := oc) (b := l) (by omega) (by omega)
    have k20 := (hk 20 (by decide)).trans h20
    have k6 := (hk 6 (by decide)).trans h6
    refine cx_run 60 mCo_markNeeded_mo ?_
    simp (decide := true) only [BmCo_markNeeded, BSC, k20, k6, E, EV, EW, CT, ev_o, ev_is, ev_gd, List.length_cons, List.length_nil, Nat.reduceLT, Nat.reduceAdd, Nat.reduceEqDiff, Nat.reduceLeDiff, Int32.reduceLT, Int32.reduceLE, reduceIte, true_and, and_true, true_or, or_true, not_true_eq_false, not_false_eq_true, false_imp_iff, true_imp_iff, implies_true]
    refine mn_loop3 hn h20' hC' hlc hD lc 0 w1 f (by omega) h21 hk (hf.congr fun j _ => ?_)
    have e : l = oc := by omega
    rw [e]
    exact ⟨fun h => .inl h, fun h => h.elim id fun ⟨l2, q, _⟩ => by omega⟩
  | succ m ih =>
    intro l w1 f hl h21 hk hf
    have E := leF (a := oc) (b := l) (by omega) (by omega)
    have k20 := (hk 20 (by decide)).trans h20
    have k6 := (hk 6 (by decide)).trans h6
    have k7 := (hk 7 (by decide)).trans h7
    have k10 := (hk 10 (by decide)).trans h10
    have v1 : vp_in (nI l) 4 := nI_in (by omega) (by decide)
    have ⟨o1, o2, o3⟩ := hO l (by omega)
    have v2 : vp_in (nI (ond l)) 48 := nI_in (by omega) (by decide)
    refine cx_run 60 mCo_markNeeded_mo ?_
    simp (decide := true) only [BmCo_markNeeded, BSC, k20, k6, k7, k10, h21, E, v1, v2, o1, o2, nI_clamp (n := l) (by omega), nI_clamp (n := ond l) (by omega), nI_1, EV, EW, CT, ev_o, ev_is, ev_gd, List.length_cons, List.length_nil, Nat.reduceLT, Nat.reduceAdd, Nat.reduceEqDiff, Nat.reduceLeDiff, Int32.reduceLT, Int32.reduceLE, reduceIte, true_and, and_true, true_or, or_true, not_true_eq_false, not_false_eq_true, false_imp_iff, true_imp_iff, implies_true]
    refine ih (l + 1) _ (upd f (ond l) 1) (by omega) (by simp only [cx_up, Nat.reduceEqDiff, reduceIte]) (fun k hk2 => by rw [← hk k hk2]; simp (disch := omega) only [cx_up, if_neg]) (hf.set.congr fun j _ => ?_)
    constructor
    · rintro (⟨l2, h1, h2⟩ | h)
      · exact ⟨l2, by omega, h2⟩
      · exact ⟨l, by omega, h.symm⟩
    · rintro ⟨l2, h1, h2⟩
      by_cases e : l2 = l
      · exact .inr (by rw [← h2, e])
      · exact .inl ⟨l2, by omega, h2⟩
set_option maxHeartbeats 4000000 in
theorem mn_loop1 {w : cx_W} {G : Gr} {nc ic lc oc : Nat} {ib pb : Int32} {nn nl dv on od : Nat → Int32} {drv ol ond : Nat → Nat} {dd : Nat} (hn : G.1 ≤ 48) (h20 : ∃ x, w 20 = oCo x) (hC : CW w nc ic lc oc ib pb nn nl dv on) (hlc : lc ≤ 6) (hoc : oc ≤ 4) (hD : DrvC G lc nn dv od drv ol) (hO : OutC G oc nn on ond) :
    ∀ (m l : Nat) (w1 : cx_W) (f : Nat → Int32), l + m = 48 → w1 21 = az 48 f → (∀ k, ¬ k = 21 → w1 k = w k) → BR l f (fun _ => False) →
    cx_OK none mCo_markNeeded (dd + 1) 0 0 (fun r w2 _ => r = none ∧ (∃ f, w2 21 = az 48 f ∧ BR 48 f (NeedP oc lc ond drv)) ∧ ∀ k, ¬ k = 21 → w2 k = w k) 2 [some (.ref 20), some (.int (nI l))] [] w1 (87, 0, 0) := by
  have h20' := h20
  obtain ⟨x, h20⟩ := h20
  intro m
  induction m with
  | zero =>
    intro l w1 f hl h21 hk hf
    have e : l = 48 := by omega
    subst e
    have E : ((48 : Int32) ≤ nI 48) = True := eq_true (by decide)
    refine cx_run 60 mCo_markNeeded_mo ?_
    simp (decide := true) only [BmCo_markNeeded, E, EV, EW, CT, ev_o, ev_is, ev_gd, List.length_cons, List.length_nil, Nat.reduceLT, Nat.reduceAdd, Nat.reduceEqDiff, Nat.reduceLeDiff, Int32.reduceLT, Int32.reduceLE, reduceIte, true_and, and_true, true_or, or_true, not_true_eq_false, not_false_eq_true, false_imp_iff, true_imp_iff, implies_true]
    exact mn_loop2 hn h20' hC hlc hoc hD hO oc 0 w1 f (by omega) h21 hk (hf.congr fun j _ => ⟨fun h => h.elim, fun ⟨l2, q, _⟩ => by omega⟩)
  | succ m ih =>
    intro l w1 f hl h21 hk hf
    have E : ((48 : Int32) ≤ nI l) = False := (lek (a := l) (c := 48) (x := 48) rfl (by omega) (by decide)).trans (eq_false (by omega))
    have k20 := (hk 20 (by decide)).trans h20
    have v1 : vp_in (nI l) 48 := nI_in (by omega) (by decide)
    refine cx_run 60 mCo_markNeeded_mo ?_
    simp (decide := true) only [BmCo_markNeeded, k20, h21, E, v1, nI_clamp (n := l) (by omega), nI_1, EV, EW, CT, ev_o, ev_is, ev_gd, List.length_cons, List.length_nil, Nat.reduceLT, Nat.reduceAdd, Nat.reduceEqDiff, Nat.reduceLeDiff, Int32.reduceLT, Int32.reduceLE, reduceIte, true_and, and_true, true_or, or_true, not_true_eq_false, not_false_eq_true, false_imp_iff, true_imp_iff, implies_true]
    refine ih (l + 1) _ (upd f l 0) (by omega) (by simp only [cx_up, Nat.reduceEqDiff, reduceIte]) (fun k hk2 => by rw [← hk k hk2]; simp (disch := omega) only [cx_up, if_neg]) (fun j hj => ⟨fun h => h.elim, fun _ => ?_⟩)
    by_cases e : j = l
    · rw [e]; exact pk_us
    · rw [pk_un e]; exact (hf j (by omega)).2 id
set_option maxHeartbeats 4000000 in
theorem c_Co_markNeeded {w : cx_W} {G : Gr} {nc ic lc oc : Nat} {ib pb : Int32} {nn nl dv on od nd0 : Nat → Int32} {drv ol ond : Nat → Nat} {dd : Nat} (hn : G.1 ≤ 48) (h20 : ∃ x, w 20 = oCo x) (h21 : w 21 = az 48 nd0) (hC : CW w nc ic lc oc ib pb nn nl dv on) (hlc : lc ≤ 6) (hoc : oc ≤ 4) (hD : DrvC G lc nn dv od drv ol) (hO : OutC G oc nn on ond) :
    cx_MC mCo_markNeeded (dd + 1) 0 0 [.ref 20] w 87 (fun r w2 => r = none ∧ (∃ f, w2 21 = az 48 f ∧ BR 48 f (NeedP oc lc ond drv)) ∧ ∀ k, ¬ k = 21 → w2 k = w k) := by
  refine cx_met 60 mCo_markNeeded_ok rfl ?_
  show cx_vc 60 none mCo_markNeeded (dd + 1) 0 0 _ _ 0 [some (.ref 20), none] [] w (87, 0, 0)
  simp only [BmCo_markNeeded, EV, EW, CT, ev_o, ev_is, ev_gd, List.length_cons, List.length_nil, Nat.reduceLT, Nat.reduceAdd, Nat.reduceEqDiff, Nat.reduceLeDiff, Int32.reduceLT, Int32.reduceLE, reduceIte, true_and, and_true, true_or, or_true, not_true_eq_false, not_false_eq_true, false_imp_iff, true_imp_iff, implies_true]
  exact mn_loop1 hn h20 hC hlc hoc hD hO 48 0 w nd0 (by omega) h21 (fun _ _ => rfl) (fun j hj => by omega)
