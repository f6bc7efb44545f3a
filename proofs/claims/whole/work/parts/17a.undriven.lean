/-! Undriven latches, cells that must be there: both sides. Own work. -/
theorem leT {a b : Nat} (h : a ≤ b) (hb : b < 2 ^ 31) : (nI a ≤ nI b) = True := eq_true (nI_le h hb)
theorem leF {a b : Nat} (h : b < a) (ha : a < 2 ^ 31) : (nI a ≤ nI b) = False := eq_false (Int32.not_le.mpr (nI_lt h ha))
theorem ltT {a b : Nat} (h : a < b) (hb : b < 2 ^ 31) : (nI a < nI b) = True := eq_true (nI_lt h hb)
theorem ltF {a b : Nat} (h : b ≤ a) (ha : a < 2 ^ 31) : (nI a < nI b) = False := eq_false (Int32.not_lt.mpr (nI_le h ha))
set_option maxHeartbeats 4000000 in
theorem und_loop {w : cx_W} {nc ic lc oc : Nat} {ib pb : Int32} {nn nl dv on : Nat → Int32} {b : Bool} {dd : Nat} (hC : CW w nc ic lc oc ib pb nn nl dv on) (hlc : lc ≤ 6) (hb : b = true ↔ ∃ l, l < lc ∧ dv l = -1) : ∀ (m i : Nat), i + m = lc → (∀ l, l < i → ¬ dv l = -1) →
    cx_OK none mCi_hasUndrivenLatch dd 0 0 (fun r w2 _ => r = some (.int (if b = true then 1 else 0)) ∧ w2 = w) 2 [some (.ref 6), some (.int (nI i))] [] w (87, 0, 0) := by
  obtain ⟨h6, h7, h8, h9, h10⟩ := hC
  intro m
  induction m with
  | zero =>
    intro i hi hl
    have e : b = false := by
      cases q : b
      · rfl
      · have ⟨l, h1, h2⟩ := hb.mp q; exact absurd h2 (hl l (by omega))
    refine cx_run 60 mCi_hasUndrivenLatch_mo ?_
    have E := leT (a := lc) (b := i) (by omega) (by omega)
    simp (decide := true) only [BmCi_hasUndrivenLatch, h6, E, e, Bool.false_eq_true, EV, EW, CT, ev_o, ev_is, ev_gd, List.length_cons, List.length_nil, Nat.reduceLT, Nat.reduceAdd, Nat.reduceEqDiff, Nat.reduceLeDiff, Int32.reduceLT, Int32.reduceLE, reduceIte, true_and, and_true, true_or, or_true, not_true_eq_false, not_false_eq_true, false_imp_iff, true_imp_iff, implies_true]
  | succ m ih =>
    intro i hi hl
    refine cx_run 60 mCi_hasUndrivenLatch_mo ?_
    have E := leF (a := lc) (b := i) (by omega) (by omega)
    have v1 : vp_in (nI i) 6 := nI_in (by omega) (by decide)
    by_cases q : dv i = -1
    · have e : b = true := hb.mpr ⟨i, by omega, q⟩
      simp (decide := true) only [BmCi_hasUndrivenLatch, h6, h9, E, v1, nI_clamp (n := i) (by omega), q, e, EV, EW, CT, ev_o, ev_is, ev_gd, List.length_cons, List.length_nil, Nat.reduceLT, Nat.reduceAdd, Nat.reduceEqDiff, Nat.reduceLeDiff, Int32.reduceLT, Int32.reduceLE, reduceIte, true_and, and_true, true_or, or_true, not_true_eq_false, not_false_eq_true, false_imp_iff, true_imp_iff, implies_true]
    · simp (decide := true) only [BmCi_hasUndrivenLatch, h6, h9, E, v1, nI_clamp (n := i) (by omega), q, nI_1, EV, EW, CT, ev_o, ev_is, ev_gd, List.length_cons, List.length_nil, Nat.reduceLT, Nat.reduceAdd, Nat.reduceEqDiff, Nat.reduceLeDiff, Int32.reduceLT, Int32.reduceLE, reduceIte, true_and, and_true, true_or, or_true, not_true_eq_false, not_false_eq_true, false_imp_iff, true_imp_iff, implies_true]
      exact ih (i + 1) (by omega) fun l hl2 => by
        by_cases e : l = i
        · rw [e]; exact q
        · exact hl l (by omega)
set_option maxHeartbeats 4000000 in
theorem c_Ci_undriven {w : cx_W} {nc ic lc oc : Nat} {ib pb : Int32} {nn nl dv on : Nat → Int32} {b : Bool} {dd : Nat} (hC : CW w nc ic lc oc ib pb nn nl dv on) (hlc : lc ≤ 6) (hb : b = true ↔ ∃ l, l < lc ∧ dv l = -1) :
    cx_MC mCi_hasUndrivenLatch dd 0 0 [.ref 6] w 87 (fun r w2 => r = some (.int (if b = true then 1 else 0)) ∧ w2 = w) := by
  refine cx_met 60 mCi_hasUndrivenLatch_ok rfl ?_
  show cx_vc 60 none mCi_hasUndrivenLatch dd 0 0 _ _ 0 [some (.ref 6), none] [] w (87, 0, 0)
  simp only [BmCi_hasUndrivenLatch, EV, EW, CT, ev_o, ev_is, ev_gd, List.length_cons, List.length_nil, Nat.reduceLT, Nat.reduceAdd, Nat.reduceEqDiff, Nat.reduceLeDiff, Int32.reduceLT, Int32.reduceLE, reduceIte, true_and, and_true, true_or, or_true, not_true_eq_false, not_false_eq_true, false_imp_iff, true_imp_iff, implies_true]
  exact und_loop hC hlc hb lc 0 (by omega) (fun l h => by omega)
set_option maxHeartbeats 4000000 in
theorem mund_loop {w : cx_W} {nc : Nat} {x1 x2 x3 x4 x5 x6 x7 x8 x9 : Int32} {so dr : Nat → Int32} {b : Bool} {dd : Nat} (h45 : w 45 = oM (nI nc) x1 x2 x3 x4 x5 x6 x7 x8 x9) (h46 : w 46 = ai 40 so) (h50 : w 50 = ai 40 dr) (hnc : nc ≤ 40) (hb : b = true ↔ ∃ i, i < nc ∧ so i = 1 ∧ dr i < 0) : ∀ (m i : Nat), i + m = nc → (∀ l, l < i → ¬ (so l = 1 ∧ dr l < 0)) →
    cx_OK none mM_undriven dd 0 0 (fun r w2 _ => r = some (.int (if b = true then 1 else 0)) ∧ w2 = w) 2 [some (.ref 45), some (.int (nI i))] [] w (87, 0, 0) := by
  intro m
  induction m with
  | zero =>
    intro i hi hl
    have e : b = false := by
      cases q : b
      · rfl
      · have ⟨l, h1, h2⟩ := hb.mp q; exact absurd h2 (hl l (by omega))
    refine cx_run 60 mM_undriven_mo ?_
    have E := leT (a := nc) (b := i) (by omega) (by omega)
    simp (decide := true) only [BmM_undriven, h45, E, e, Bool.false_eq_true, EV, EW, CT, ev_o, ev_is, ev_gd, List.length_cons, List.length_nil, Nat.reduceLT, Nat.reduceAdd, Nat.reduceEqDiff, Nat.reduceLeDiff, Int32.reduceLT, Int32.reduceLE, reduceIte, true_and, and_true, true_or, or_true, not_true_eq_false, not_false_eq_true, false_imp_iff, true_imp_iff, implies_true]
  | succ m ih =>
    intro i hi hl
    refine cx_run 60 mM_undriven_mo ?_
    have E := leF (a := nc) (b := i) (by omega) (by omega)
    have v1 : vp_in (nI i) 40 := nI_in (by omega) (by decide)
    have nx : ¬ (so i = 1 ∧ dr i < 0) → cx_OK none mM_undriven dd 0 0 (fun r w2 _ => r = some (.int (if b = true then 1 else 0)) ∧ w2 = w) 2 [some (.ref 45), some (.int (nI (i + 1)))] [] w (87, 0, 0) := fun q =>
      ih (i + 1) (by omega) fun l hl2 => by
        by_cases e : l = i
        · rw [e]; exact q
        · exact hl l (by omega)
    by_cases q : so i = 1
    · by_cases q2 : dr i < 0
      · have e : b = true := hb.mpr ⟨i, by omega, q, q2⟩
        have q3 : (0 ≤ dr i) = False := eq_false (Int32.not_le.mpr q2)
        simp (decide := true) only [BmM_undriven, h45, h46, h50, E, v1, nI_clamp (n := i) (by omega), q, q2, q3, e, EV, EW, CT, ev_o, ev_is, ev_gd, List.length_cons, List.length_nil, Nat.reduceLT, Nat.reduceAdd, Nat.reduceEqDiff, Nat.reduceLeDiff, Int32.reduceLT, Int32.reduceLE, reduceIte, true_and, and_true, true_or, or_true, not_true_eq_false, not_false_eq_true, false_imp_iff, true_imp_iff, implies_true]
      · have q3 : (0 ≤ dr i) = True := eq_true (Int32.not_lt.mp q2)
        simp (decide := true) only [BmM_undriven, h45, h46, h50, E, v1, nI_clamp (n := i) (by omega), q, q2, q3, nI_1, EV, EW, CT, ev_o, ev_is, ev_gd, List.length_cons, List.length_nil, Nat.reduceLT, Nat.reduceAdd, Nat.reduceEqDiff, Nat.reduceLeDiff, Int32.reduceLT, Int32.reduceLE, reduceIte, true_and, and_true, true_or, or_true, not_true_eq_false, not_false_eq_true, false_imp_iff, true_imp_iff, implies_true]
        exact nx fun h => q2 h.2
    · simp (decide := true) only [BmM_undriven, h45, h46, h50, E, v1, nI_clamp (n := i) (by omega), q, nI_1, EV, EW, CT, ev_o, ev_is, ev_gd, List.length_cons, List.length_nil, Nat.reduceLT, Nat.reduceAdd, Nat.reduceEqDiff, Nat.reduceLeDiff, Int32.reduceLT, Int32.reduceLE, reduceIte, true_and, and_true, true_or, or_true, not_true_eq_false, not_false_eq_true, false_imp_iff, true_imp_iff, implies_true]
      exact nx fun h => q h.1
set_option maxHeartbeats 4000000 in
theorem c_M_undriven {w : cx_W} {nc : Nat} {x1 x2 x3 x4 x5 x6 x7 x8 x9 : Int32} {so dr : Nat → Int32} {b : Bool} {dd : Nat} (h45 : w 45 = oM (nI nc) x1 x2 x3 x4 x5 x6 x7 x8 x9) (h46 : w 46 = ai 40 so) (h50 : w 50 = ai 40 dr) (hnc : nc ≤ 40) (hb : b = true ↔ ∃ i, i < nc ∧ so i = 1 ∧ dr i < 0) :
    cx_MC mM_undriven dd 0 0 [.ref 45] w 87 (fun r w2 => r = some (.int (if b = true then 1 else 0)) ∧ w2 = w) := by
  refine cx_met 60 mM_undriven_ok rfl ?_
  show cx_vc 60 none mM_undriven dd 0 0 _ _ 0 [some (.ref 45), none] [] w (87, 0, 0)
  simp only [BmM_undriven, EV, EW, CT, ev_o, ev_is, ev_gd, List.length_cons, List.length_nil, Nat.reduceLT, Nat.reduceAdd, Nat.reduceEqDiff, Nat.reduceLeDiff, Int32.reduceLT, Int32.reduceLE, reduceIte, true_and, and_true, true_or, or_true, not_true_eq_false, not_false_eq_true, false_imp_iff, true_imp_iff, implies_true]
  exact mund_loop h45 h46 h50 hnc hb nc 0 (by omega) (fun l h => by omega)
set_option maxHeartbeats 4000000 in
theorem hasp_loop {w : cx_W} {cc : Nat} {pa ar dl pn nd tb : Nat → Int32} {p : Int32} {b : Bool} {dd : Nat} (hL : LW w cc pa ar dl pn nd tb) (hcc : cc ≤ 8) (hb : b = true ↔ ∃ l, l < cc ∧ pa l = p) : ∀ (m i : Nat), i + m = cc → (∀ l, l < i → ¬ pa l = p) →
    cx_OK none mLi_hasPattern dd 0 0 (fun r w2 _ => r = some (.int (if b = true then 1 else 0)) ∧ w2 = w) 2 [some (.ref 13), some (.int p), some (.int (nI i))] [] w (87, 0, 0) := by
  obtain ⟨h13, h14, _⟩ := hL
  intro m
  induction m with
  | zero =>
    intro i hi hl
    have e : b = false := by
      cases q : b
      · rfl
      · have ⟨l, h1, h2⟩ := hb.mp q; exact absurd h2 (hl l (by omega))
    refine cx_run 60 mLi_hasPattern_mo ?_
    have E := leT (a := cc) (b := i) (by omega) (by omega)
    simp (decide := true) only [BmLi_hasPattern, h13, E, e, Bool.false_eq_true, EV, EW, CT, ev_o, ev_is, ev_gd, List.length_cons, List.length_nil, Nat.reduceLT, Nat.reduceAdd, Nat.reduceEqDiff, Nat.reduceLeDiff, Int32.reduceLT, Int32.reduceLE, reduceIte, true_and, and_true, true_or, or_true, not_true_eq_false, not_false_eq_true, false_imp_iff, true_imp_iff, implies_true]
  | succ m ih =>
    intro i hi hl
    refine cx_run 60 mLi_hasPattern_mo ?_
    have E := leF (a := cc) (b := i) (by omega) (by omega)
    have v1 : vp_in (nI i) 8 := nI_in (by omega) (by decide)
    by_cases q : pa i = p
    · have e : b = true := hb.mpr ⟨i, by omega, q⟩
      simp (decide := true) only [BmLi_hasPattern, h13, h14, E, v1, nI_clamp (n := i) (by omega), q, e, EV, EW, CT, ev_o, ev_is, ev_gd, List.length_cons, List.length_nil, Nat.reduceLT, Nat.reduceAdd, Nat.reduceEqDiff, Nat.reduceLeDiff, Int32.reduceLT, Int32.reduceLE, reduceIte, true_and, and_true, true_or, or_true, not_true_eq_false, not_false_eq_true, false_imp_iff, true_imp_iff, implies_true]
    · simp (decide := true) only [BmLi_hasPattern, h13, h14, E, v1, nI_clamp (n := i) (by omega), q, nI_1, EV, EW, CT, ev_o, ev_is, ev_gd, List.length_cons, List.length_nil, Nat.reduceLT, Nat.reduceAdd, Nat.reduceEqDiff, Nat.reduceLeDiff, Int32.reduceLT, Int32.reduceLE, reduceIte, true_and, and_true, true_or, or_true, not_true_eq_false, not_false_eq_true, false_imp_iff, true_imp_iff, implies_true]
      exact ih (i + 1) (by omega) fun l hl2 => by
        by_cases e : l = i
        · rw [e]; exact q
        · exact hl l (by omega)
set_option maxHeartbeats 4000000 in
theorem c_Li_hasPattern {w : cx_W} {cc : Nat} {pa ar dl pn nd tb : Nat → Int32} {p : Int32} {b : Bool} {dd : Nat} (hL : LW w cc pa ar dl pn nd tb) (hcc : cc ≤ 8) (hb : b = true ↔ ∃ l, l < cc ∧ pa l = p) :
    cx_MC mLi_hasPattern dd 0 0 [.ref 13, .int p] w 87 (fun r w2 => r = some (.int (if b = true then 1 else 0)) ∧ w2 = w) := by
  refine cx_met 60 mLi_hasPattern_ok rfl ?_
  show cx_vc 60 none mLi_hasPattern dd 0 0 _ _ 0 [some (.ref 13), some (.int p), none] [] w (87, 0, 0)
  simp only [BmLi_hasPattern, EV, EW, CT, ev_o, ev_is, ev_gd, List.length_cons, List.length_nil, Nat.reduceLT, Nat.reduceAdd, Nat.reduceEqDiff, Nat.reduceLeDiff, Int32.reduceLT, Int32.reduceLE, reduceIte, true_and, and_true, true_or, or_true, not_true_eq_false, not_false_eq_true, false_imp_iff, true_imp_iff, implies_true]
  exact hasp_loop hL hcc hb cc 0 (by omega) (fun l h => by omega)
set_option maxHeartbeats 4000000 in
theorem mhas_loop {w : cx_W} {cc : Nat} {x0 x1 x2 x3 x4 x6 x7 x8 x9 : Int32} {pa : Nat → Int32} {p : Int32} {b : Bool} {dd : Nat} (h45 : w 45 = oM x0 x1 x2 x3 x4 (nI cc) x6 x7 x8 x9) (h61 : w 61 = ai 8 pa) (hcc : cc ≤ 8) (hb : b = true ↔ ∃ l, l < cc ∧ pa l = p) : ∀ (m i : Nat), i + m = cc → (∀ l, l < i → ¬ pa l = p) →
    cx_OK none mM_hasCell dd 0 0 (fun r w2 _ => r = some (.int (if b = true then 1 else 0)) ∧ w2 = w) 2 [some (.ref 45), some (.int p), some (.int (nI i))] [] w (87, 0, 0) := by
  intro m
  induction m with
  | zero =>
    intro i hi hl
    have e : b = false := by
      cases q : b
      · rfl
      · have ⟨l, h1, h2⟩ := hb.mp q; exact absurd h2 (hl l (by omega))
    refine cx_run 60 mM_hasCell_mo ?_
    have E := leT (a := cc) (b := i) (by omega) (by omega)
    simp (decide := true) only [BmM_hasCell, h45, E, e, Bool.false_eq_true, EV, EW, CT, ev_o, ev_is, ev_gd, List.length_cons, List.length_nil, Nat.reduceLT, Nat.reduceAdd, Nat.reduceEqDiff, Nat.reduceLeDiff, Int32.reduceLT, Int32.reduceLE, reduceIte, true_and, and_true, true_or, or_true, not_true_eq_false, not_false_eq_true, false_imp_iff, true_imp_iff, implies_true]
  | succ m ih =>
    intro i hi hl
    refine cx_run 60 mM_hasCell_mo ?_
    have E := leF (a := cc) (b := i) (by omega) (by omega)
    have v1 : vp_in (nI i) 8 := nI_in (by omega) (by decide)
    by_cases q : pa i = p
    · have e : b = true := hb.mpr ⟨i, by omega, q⟩
      simp (decide := true) only [BmM_hasCell, h45, h61, E, v1, nI_clamp (n := i) (by omega), q, e, EV, EW, CT, ev_o, ev_is, ev_gd, List.length_cons, List.length_nil, Nat.reduceLT, Nat.reduceAdd, Nat.reduceEqDiff, Nat.reduceLeDiff, Int32.reduceLT, Int32.reduceLE, reduceIte, true_and, and_true, true_or, or_true, not_true_eq_false, not_false_eq_true, false_imp_iff, true_imp_iff, implies_true]
    · simp (decide := true) only [BmM_hasCell, h45, h61, E, v1, nI_clamp (n := i) (by omega), q, nI_1, EV, EW, CT, ev_o, ev_is, ev_gd, List.length_cons, List.length_nil, Nat.reduceLT, Nat.reduceAdd, Nat.reduceEqDiff, Nat.reduceLeDiff, Int32.reduceLT, Int32.reduceLE, reduceIte, true_and, and_true, true_or, or_true, not_true_eq_false, not_false_eq_true, false_imp_iff, true_imp_iff, implies_true]
      exact ih (i + 1) (by omega) fun l hl2 => by
        by_cases e : l = i
        · rw [e]; exact q
        · exact hl l (by omega)
set_option maxHeartbeats 4000000 in
theorem c_M_hasCell {w : cx_W} {cc : Nat} {x0 x1 x2 x3 x4 x6 x7 x8 x9 : Int32} {pa : Nat → Int32} {p : Int32} {b : Bool} {dd : Nat} (h45 : w 45 = oM x0 x1 x2 x3 x4 (nI cc) x6 x7 x8 x9) (h61 : w 61 = ai 8 pa) (hcc : cc ≤ 8) (hb : b = true ↔ ∃ l, l < cc ∧ pa l = p) :
    cx_MC mM_hasCell dd 0 0 [.ref 45, .int p] w 87 (fun r w2 => r = some (.int (if b = true then 1 else 0)) ∧ w2 = w) := by
  refine cx_met 60 mM_hasCell_ok rfl ?_
  show cx_vc 60 none mM_hasCell dd 0 0 _ _ 0 [some (.ref 45), some (.int p), none] [] w (87, 0, 0)
  simp only [BmM_hasCell, EV, EW, CT, ev_o, ev_is, ev_gd, List.length_cons, List.length_nil, Nat.reduceLT, Nat.reduceAdd, Nat.reduceEqDiff, Nat.reduceLeDiff, Int32.reduceLT, Int32.reduceLE, reduceIte, true_and, and_true, true_or, or_true, not_true_eq_false, not_false_eq_true, false_imp_iff, true_imp_iff, implies_true]
  exact mhas_loop h45 h61 hcc hb cc 0 (by omega) (fun l h => by omega)
