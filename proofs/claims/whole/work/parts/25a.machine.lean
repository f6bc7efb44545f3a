/-! Clocking the retimed circuit: the given side. Own work. -/
/-- what arrives at a connection's end -/
def arv (v : Nat → Bool) (S cn pv : Nat → Nat) (e : Nat) : Bool := rt_ar v (S e) (cn e) (pv e)
theorem arv_z {v : Nat → Bool} {S cn pv : Nat → Nat} {e : Nat} (h : cn e = 0) : arv v S cn pv e = v (S e) := if_pos h
theorem arv_p {v : Nat → Bool} {S cn pv : Nat → Nat} {e c : Nat} (h : cn e = c + 1) : arv v S cn pv e = (pv e).testBit c := by
  unfold arv rt_ar
  rw [if_neg (by omega), h, Nat.add_sub_cancel]
def nxR (v : Nat → Bool) (S cn pv : Nat → Nat) (e : Nat) : Nat := (2 * pv e + (v (S e)).toNat) % 2 ^ cn e
def PvR (fo oc : Nat) (cn pv : Nat → Nat) (pw : Nat → Int64) : Prop := ∀ e, e < fo + oc → pw e = lN (pv e) ∧ pv e < 2 ^ cn e
set_option maxHeartbeats 8000000 in
theorem mrs_loop {w : cx_W} {n : Nat} {gt : Nat → Prop} {pl F : Nat → Nat} {fo oc : Nat} {S tbl cn : Nat → Nat} {gs ch pn tb sr fg gm ct : Nat → Int32} {rw : Nat → Int64} {dd : Nat} (hA : ArW w n gt pl F fo oc S tbl cn gs ch pn tb sr fg gm ct) (h34 : w 34 = al 196 rw) :
    ∀ (m e : Nat) (w1 : cx_W) (pw : Nat → Int64), e + m = fo + oc → w1 41 = al 196 pw → (∀ k, ¬ k = 41 → w1 k = w k) → (∀ j, j < e → pw j = rw j) →
    cx_OK none mMa_restart (dd + 2) 0 0 (fun r_ w2 _ => r_ = none ∧ (∃ pw, w2 41 = al 196 pw ∧ ∀ j, j < fo + oc → pw j = rw j) ∧ ∀ k, ¬ k = 41 → w2 k = w k) 2 [some (.ref 40), some (.int (nI e))] [] w1 (87, 0, 0) := by
  obtain ⟨⟨⟨hn, ⟨x13, h13⟩, h17, h19, h20, h24, h29, h30, h31, h35⟩, hG, hfo, hgd, hinj, hsr⟩, h1, h28, hB, h33, hct, h40⟩ := hA
  intro m
  induction m with
  | zero =>
    intro e w1 pw he h41 hk hp
    have E := leT (a := fo + oc) (b := e) (by omega) (by omega)
    have k40 := (hk 40 (by decide)).trans h40
    have k30 := (hk 30 (by decide)).trans h30
    refine cx_run 100 mMa_restart_mo ?_
    simp (decide := true) only [BmMa_restart, BSC, k40, k30, E, EV, EW, CT, ev_o, ev_is, ev_gd, List.length_cons, List.length_nil, Nat.reduceLT, Nat.reduceAdd, Nat.reduceEqDiff, Nat.reduceLeDiff, Int32.reduceLT, Int32.reduceLE, reduceIte, true_and, and_true, true_or, or_true, not_true_eq_false, not_false_eq_true, false_imp_iff, true_imp_iff, implies_true]
    exact ⟨⟨pw, h41, fun j hj => hp j (by omega)⟩, hk⟩
  | succ m ih =>
    intro e w1 pw he h41 hk hp
    have E := leF (a := fo + oc) (b := e) (by omega) (by omega)
    have k40 := (hk 40 (by decide)).trans h40
    have k30 := (hk 30 (by decide)).trans h30
    have k34 := (hk 34 (by decide)).trans h34
    have ve : vp_in (nI e) 196 := nI_in (by omega) (by decide)
    refine cx_run 100 mMa_restart_mo ?_
    simp (decide := true) only [BmMa_restart, BSC, k40, k30, k34, h41, E, ve, nI_clamp (n := e) (by omega), nI_1, EV, EW, CT, ev_o, ev_is, ev_gd, List.length_cons, List.length_nil, Nat.reduceLT, Nat.reduceAdd, Nat.reduceEqDiff, Nat.reduceLeDiff, Int32.reduceLT, Int32.reduceLE, reduceIte, true_and, and_true, true_or, or_true, not_true_eq_false, not_false_eq_true, false_imp_iff, true_imp_iff, implies_true]
    refine ih (e + 1) _ (vp_updL pw e (rw e)) (by omega) (by simp only [cx_up, Nat.reduceEqDiff, reduceIte]) (fun k z => by rw [← hk k z]; simp (disch := omega) only [cx_up, if_neg]) (fun j hj => ?_)
    by_cases z : j = e
    · subst z; rw [pk_uLs]
    · rw [pk_uLn z]; exact hp j (by omega)
set_option maxHeartbeats 8000000 in
theorem c_Ma_restart {w : cx_W} {n : Nat} {gt : Nat → Prop} {pl F : Nat → Nat} {fo oc : Nat} {S tbl cn : Nat → Nat} {gs ch pn tb sr fg gm ct : Nat → Int32} {rw pw : Nat → Int64} {dd : Nat} (hA : ArW w n gt pl F fo oc S tbl cn gs ch pn tb sr fg gm ct) (h34 : w 34 = al 196 rw) (h41 : w 41 = al 196 pw) :
    cx_MC mMa_restart (dd + 2) 0 0 [.ref 40] w 87 (fun r_ w2 => r_ = none ∧ (∃ pw, w2 41 = al 196 pw ∧ ∀ j, j < fo + oc → pw j = rw j) ∧ ∀ k, ¬ k = 41 → w2 k = w k) := by
  refine cx_met 60 mMa_restart_ok rfl ?_
  show cx_vc 60 none mMa_restart (dd + 2) 0 0 _ _ 0 [some (.ref 40), none] [] w (87, 0, 0)
  simp only [BmMa_restart, EV, EW, CT, ev_o, ev_is, ev_gd, List.length_cons, List.length_nil, Nat.reduceLT, Nat.reduceAdd, Nat.reduceEqDiff, Nat.reduceLeDiff, Int32.reduceLT, Int32.reduceLE, reduceIte, true_and, and_true, true_or, or_true, not_true_eq_false, not_false_eq_true, false_imp_iff, true_imp_iff, implies_true]
  exact mrs_loop hA h34 (fo + oc) 0 w pw (by omega) h41 (fun _ _ => rfl) (fun j h => by omega)
set_option maxHeartbeats 8000000 in
theorem mri_loop {w : cx_W} {G : Gr} {od : Nat → Int32} {inp : Int32} {v : Nat → Bool} {dd : Nat} (hG : GW w G) (hn : G.1 ≤ 48) (h40 : w 40 = oMa) (h5 : w 5 = ai 48 od) (hl0 : ∀ m, m < G.1 → G.2.1 m = 0 → ∃ k : Nat, od m = nI k ∧ nI (v m).toNat = inp >>> (nI k &&& 31) &&& 1) :
    ∀ (m i : Nat) (w1 : cx_W) (vs : Nat → Int32), i + m = G.1 → w1 44 = ai 48 vs → (∀ k, ¬ k = 44 → w1 k = w k) → (∀ j, j < i → G.2.1 j = 0 → vs j = nI (v j).toNat) →
    cx_OK none mMa_readInputs (dd + 2) 0 0 (fun r_ w2 _ => r_ = none ∧ (∃ vs, w2 44 = ai 48 vs ∧ ∀ j, j < G.1 → G.2.1 j = 0 → vs j = nI (v j).toNat) ∧ ∀ k, ¬ k = 44 → w2 k = w k) 2 [some (.ref 40), some (.int inp), some (.int (nI i))] [] w1 (87, 0, 0) := by
  obtain ⟨h1, h2, h3, h4⟩ := hG
  intro m
  induction m with
  | zero =>
    intro i w1 vs hi h44 hk hv
    have E := leT (a := G.1) (b := i) (by omega) (by omega)
    have k40 := (hk 40 (by decide)).trans h40
    have k1 := (hk 1 (by decide)).trans h1
    refine cx_run 100 mMa_readInputs_mo ?_
    simp (decide := true) only [BmMa_readInputs, BSC, k40, k1, E, EV, EW, CT, ev_o, ev_is, ev_gd, List.length_cons, List.length_nil, Nat.reduceLT, Nat.reduceAdd, Nat.reduceEqDiff, Nat.reduceLeDiff, Int32.reduceLT, Int32.reduceLE, reduceIte, true_and, and_true, true_or, or_true, not_true_eq_false, not_false_eq_true, false_imp_iff, true_imp_iff, implies_true]
    exact ⟨⟨vs, h44, fun j hj => hv j (by omega)⟩, hk⟩
  | succ m ih =>
    intro i w1 vs hi h44 hk hv
    have E := leF (a := G.1) (b := i) (by omega) (by omega)
    have k40 := (hk 40 (by decide)).trans h40
    have k1 := (hk 1 (by decide)).trans h1
    have k2 := (hk 2 (by decide)).trans h2
    have k5 := (hk 5 (by decide)).trans h5
    have vi : vp_in (nI i) 48 := nI_in (by omega) (by decide)
    refine cx_run 100 mMa_readInputs_mo ?_
    by_cases z : G.2.1 i = 0
    · obtain ⟨k, o1, o2⟩ := hl0 i (by omega) z
      simp (decide := true) only [BmMa_readInputs, BSC, k40, k1, k2, k5, h44, E, vi, z, o1, ← o2, nI_clamp (n := i) (by omega), nI_1, EV, EW, CT, ev_o, ev_is, ev_gd, List.length_cons, List.length_nil, Nat.reduceLT, Nat.reduceAdd, Nat.reduceEqDiff, Nat.reduceLeDiff, Int32.reduceLT, Int32.reduceLE, reduceIte, true_and, and_true, true_or, or_true, not_true_eq_false, not_false_eq_true, false_imp_iff, true_imp_iff, implies_true]
      refine ih (i + 1) _ (upd vs i (nI (v i).toNat)) (by omega) (by simp only [cx_up, Nat.reduceEqDiff, reduceIte]) (fun k z => by rw [← hk k z]; simp (disch := omega) only [cx_up, if_neg]) (fun j hj hz => ?_)
      by_cases q : j = i
      · subst q; rw [pk_us]
      · rw [pk_un q]; exact hv j (by omega) hz
    · have Z : (G.2.1 i = 0) = False := eq_false z
      simp (decide := true) only [BmMa_readInputs, BSC, k40, k1, k2, k5, h44, E, vi, Z, nI_clamp (n := i) (by omega), nI_1, EV, EW, CT, ev_o, ev_is, ev_gd, List.length_cons, List.length_nil, Nat.reduceLT, Nat.reduceAdd, Nat.reduceEqDiff, Nat.reduceLeDiff, Int32.reduceLT, Int32.reduceLE, reduceIte, true_and, and_true, true_or, or_true, not_true_eq_false, not_false_eq_true, false_imp_iff, true_imp_iff, implies_true]
      refine ih (i + 1) _ vs (by omega) h44 hk (fun j hj hz => ?_)
      by_cases q : j = i
      · subst q; exact absurd hz z
      · exact hv j (by omega) hz
set_option maxHeartbeats 8000000 in
theorem c_Ma_readInputs {w : cx_W} {G : Gr} {od vs : Nat → Int32} {inp : Int32} {v : Nat → Bool} {dd : Nat} (hG : GW w G) (hn : G.1 ≤ 48) (h40 : w 40 = oMa) (h5 : w 5 = ai 48 od) (h44 : w 44 = ai 48 vs) (hl0 : ∀ m, m < G.1 → G.2.1 m = 0 → ∃ k : Nat, od m = nI k ∧ nI (v m).toNat = inp >>> (nI k &&& 31) &&& 1) :
    cx_MC mMa_readInputs (dd + 2) 0 0 [.ref 40, .int inp] w 87 (fun r_ w2 => r_ = none ∧ (∃ vs, w2 44 = ai 48 vs ∧ ∀ j, j < G.1 → G.2.1 j = 0 → vs j = nI (v j).toNat) ∧ ∀ k, ¬ k = 44 → w2 k = w k) := by
  refine cx_met 60 mMa_readInputs_ok rfl ?_
  show cx_vc 60 none mMa_readInputs (dd + 2) 0 0 _ _ 0 [some (.ref 40), some (.int inp), none] [] w (87, 0, 0)
  simp only [BmMa_readInputs, EV, EW, CT, ev_o, ev_is, ev_gd, List.length_cons, List.length_nil, Nat.reduceLT, Nat.reduceAdd, Nat.reduceEqDiff, Nat.reduceLeDiff, Int32.reduceLT, Int32.reduceLE, reduceIte, true_and, and_true, true_or, or_true, not_true_eq_false, not_false_eq_true, false_imp_iff, true_imp_iff, implies_true]
  exact mri_loop hG hn h40 h5 hl0 G.1 0 w vs (by omega) h44 (fun _ _ => rfl) (fun j h => by omega)
set_option maxHeartbeats 8000000 in
theorem mov_loop {w : cx_W} {n : Nat} {gt : Nat → Prop} {pl F : Nat → Nat} {fo oc : Nat} {S tbl cn pv : Nat → Nat} {gs ch pn tb sr fg gm ct vs : Nat → Int32} {pw : Nat → Int64} {g : Nat} {v : Nat → Bool} {dd : Nat} (hA : ArW w n gt pl F fo oc S tbl cn gs ch pn tb sr fg gm ct) (h41 : w 41 = al 196 pw) (hpv : PvR fo oc cn pv pw) (h44 : w 44 = ai 48 vs) (hg : gt g) (hv : ∀ p, p < pl g → cn (F g + p) = 0 → vs (S (F g + p)) = nI (v (S (F g + p))).toNat) :
    ∀ (m p : Nat), p + m = pl g →
    cx_OK none mMa_outputValue (dd + 3) 0 0 (fun r_ w2 _ => r_ = some (.int (nI ((tbl g).testBit (pb (fun p => arv v S cn pv (F g + p)) (pl g))).toNat)) ∧ w2 = w) 14 [some (.ref 40), some (.int (nI g)), some (.int (nI (F g))), some (.int (nI (pb (fun p => arv v S cn pv (F g + p)) p))), some (.int (nI p))] [] w (87, 0, 0) := by
  obtain ⟨⟨⟨hn, ⟨x13, h13⟩, h17, h19, h20, h24, h29, h30, h31, h35⟩, hG, hfo, hgd, hinj, hsr⟩, h1, h28, hB, h33, hct, h40⟩ := hA
  obtain ⟨g1, g2, g3, c, c1, c2, c3, c4, c5, c6⟩ := hgd g hg
  have vg : vp_in (nI g) 48 := nI_in (by omega) (by decide)
  have vc : vp_in (nI c) 8 := nI_in c1 (by decide)
  intro m
  induction m with
  | zero =>
    intro p hp
    have ep : p = pl g := by omega
    subst ep
    have E := leT (a := pl g) (b := pl g) (by omega) (by omega)
    have hpb := pb_lt (fun p => arv v S cn pv (F g + p)) (pl g)
    have h16 : 2 ^ pl g ≤ 2 ^ 4 := Nat.pow_le_pow_right (by decide) c4
    have eb := bitN (a := tbl g) (k := pb (fun p => arv v S cn pv (F g + p)) (pl g)) (by omega) (by omega)
    rw [← tb_bool] at eb
    refine cx_run 100 mMa_outputValue_mo ?_
    simp (decide := true) only [BmMa_outputValue, BSC, h40, h20, h24, h13, h17, h19, vg, vc, c2, c3, c5, E, eb, nI_clamp (n := g) (by omega), nI_clamp (n := c) (by omega), EV, EW, CT, ev_o, ev_is, ev_gd, List.length_cons, List.length_nil, Nat.reduceLT, Nat.reduceAdd, Nat.reduceEqDiff, Nat.reduceLeDiff, Int32.reduceLT, Int32.reduceLE, reduceIte, true_and, and_true, true_or, or_true, not_true_eq_false, not_false_eq_true, false_imp_iff, true_imp_iff, implies_true]
  | succ m ih =>
    intro p hp
    have E := leF (a := pl g) (b := p) (by omega) (by omega)
    have ve : vp_in (nI (F g + p)) 196 := nI_in (by omega) (by decide)
    obtain ⟨d1, d2⟩ := hct (F g + p) (by omega)
    obtain ⟨s1, s2⟩ := hsr (F g + p) (by omega)
    obtain ⟨p1, p2⟩ := hpv (F g + p) (by omega)
    have vs_ : vp_in (nI (S (F g + p))) 48 := nI_in s2 (by decide)
    have po := pb_or (f := fun p => arv v S cn pv (F g + p)) (k := p) (by omega)
    refine cx_run 100 mMa_outputValue_mo ?_
    by_cases q : cn (F g + p) = 0
    · have Z : (nI (cn (F g + p)) = 0) = True := eq_true (by rw [q]; rfl)
      have e1 := hv p (by omega) q
      rw [← arv_z (v := v) (S := S) (cn := cn) (pv := pv) q] at e1
      simp (decide := true) only [BmMa_outputValue, BSC, h40, h20, h24, h13, h17, h30, h31, h33, h44, vg, vc, ve, vs_, c2, c3, d1, s1, E, Z, e1, po, nI_add, nI_clamp (n := g) (by omega), nI_clamp (n := c) (by omega), nI_clamp (n := F g + p) (by omega), nI_clamp (n := S (F g + p)) (by omega), nI_1, EV, EW, CT, ev_o, ev_is, ev_gd, List.length_cons, List.length_nil, Nat.reduceLT, Nat.reduceAdd, Nat.reduceEqDiff, Nat.reduceLeDiff, Int32.reduceLT, Int32.reduceLE, reduceIte, true_and, and_true, true_or, or_true, not_true_eq_false, not_false_eq_true, false_imp_iff, true_imp_iff, implies_true]
      exact ih (p + 1) (by omega)
    · have Z : (nI (cn (F g + p)) = 0) = False := (z0 (by omega)).trans (eq_false q)
      obtain ⟨cm, hcm⟩ : ∃ cm, cn (F g + p) = cm + 1 := ⟨cn (F g + p) - 1, by omega⟩
      have h63 : (2 : Nat) ^ cn (F g + p) ≤ 2 ^ 61 := Nat.pow_le_pow_right (by decide) d2
      have m1 : nI (cn (F g + p)) - 1 = nI cm := by rw [hcm]; exact nI_pred _
      have lb := l_bit (a := pv (F g + p)) (k := cm) (by omega) (by omega)
      rw [← tb_bool, ← arv_p (v := v) (S := S) (cn := cn) (pv := pv) hcm] at lb
      simp (decide := true) only [BmMa_outputValue, BSC, h40, h20, h24, h13, h17, h30, h31, h33, h41, vg, vc, ve, c2, c3, d1, p1, E, Z, m1, lb, po, nI_add, nI_clamp (n := g) (by omega), nI_clamp (n := c) (by omega), nI_clamp (n := F g + p) (by omega), nI_1, EV, EW, CT, ev_o, ev_is, ev_gd, List.length_cons, List.length_nil, Nat.reduceLT, Nat.reduceAdd, Nat.reduceEqDiff, Nat.reduceLeDiff, Int32.reduceLT, Int32.reduceLE, reduceIte, true_and, and_true, true_or, or_true, not_true_eq_false, not_false_eq_true, false_imp_iff, true_imp_iff, implies_true]
      exact ih (p + 1) (by omega)
set_option maxHeartbeats 8000000 in
theorem c_Ma_outputValue {w : cx_W} {n : Nat} {gt : Nat → Prop} {pl F : Nat → Nat} {fo oc : Nat} {S tbl cn pv : Nat → Nat} {gs ch pn tb sr fg gm ct vs : Nat → Int32} {pw : Nat → Int64} {g : Nat} {v : Nat → Bool} {dd : Nat} (hA : ArW w n gt pl F fo oc S tbl cn gs ch pn tb sr fg gm ct) (h41 : w 41 = al 196 pw) (hpv : PvR fo oc cn pv pw) (h44 : w 44 = ai 48 vs) (hg : gt g) (hv : ∀ p, p < pl g → cn (F g + p) = 0 → vs (S (F g + p)) = nI (v (S (F g + p))).toNat) :
    cx_MC mMa_outputValue (dd + 3) 0 0 [.ref 40, .int (nI g)] w 87 (fun r_ w2 => r_ = some (.int (nI ((tbl g).testBit (pb (fun p => arv v S cn pv (F g + p)) (pl g))).toNat)) ∧ w2 = w) := by
  have hA' := hA
  obtain ⟨⟨⟨hn, ⟨x13, h13⟩, h17, h19, h20, h24, h29, h30, h31, h35⟩, hG, hfo, hgd, hinj, hsr⟩, h1, h28, hB, h33, hct, h40⟩ := hA
  obtain ⟨g1, g2, g3, c, c1, c2, c3, c4, c5, c6⟩ := hgd g hg
  have vg : vp_in (nI g) 48 := nI_in (by omega) (by decide)
  refine cx_met 60 mMa_outputValue_ok rfl ?_
  show cx_vc 60 none mMa_outputValue (dd + 3) 0 0 _ _ 0 [some (.ref 40), some (.int (nI g)), none, none, none] [] w (87, 0, 0)
  simp (decide := true) only [BmMa_outputValue, BSC, h40, h30, h35, vg, g2, nI_clamp (n := g) (by omega), EV, EW, CT, ev_o, ev_is, ev_gd, List.length_cons, List.length_nil, Nat.reduceLT, Nat.reduceAdd, Nat.reduceEqDiff, Nat.reduceLeDiff, Int32.reduceLT, Int32.reduceLE, reduceIte, true_and, and_true, true_or, or_true, not_true_eq_false, not_false_eq_true, false_imp_iff, true_imp_iff, implies_true]
  exact mov_loop hA' h41 hpv h44 hg hv (pl g) 0 (by omega)
set_option maxHeartbeats 8000000 in
theorem msh_loop {w : cx_W} {n : Nat} {gt : Nat → Prop} {pl F : Nat → Nat} {fo oc : Nat} {S tbl cn pv : Nat → Nat} {gs ch pn tb sr fg gm ct vs : Nat → Int32} {pw : Nat → Int64} {v : Nat → Bool} {dd : Nat} (hA : ArW w n gt pl F fo oc S tbl cn gs ch pn tb sr fg gm ct) (hpv : PvR fo oc cn pv pw) (h44 : w 44 = ai 48 vs) (hv : ∀ e, e < fo + oc → vs (S e) = nI (v (S e)).toNat) :
    ∀ (m e : Nat) (w1 : cx_W) (pw1 : Nat → Int64) (l2 l3 : Option Value), e + m = fo + oc → w1 41 = al 196 pw1 → (∀ k, ¬ k = 41 → w1 k = w k) → (∀ j, j < e → pw1 j = lN (nxR v S cn pv j)) → (∀ j, e ≤ j → pw1 j = pw j) →
    cx_OK none mMa_shiftRows (dd + 2) 0 0 (fun r_ w2 _ => r_ = none ∧ (∃ pw, w2 41 = al 196 pw ∧ PvR fo oc cn (nxR v S cn pv) pw) ∧ ∀ k, ¬ k = 41 → w2 k = w k) 2 [some (.ref 40), some (.int (nI e)), l2, l3] [] w1 (87, 0, 0) := by
  obtain ⟨⟨⟨hn, ⟨x13, h13⟩, h17, h19, h20, h24, h29, h30, h31, h35⟩, hG, hfo, hgd, hinj, hsr⟩, h1, h28, hB, h33, hct, h40⟩ := hA
  intro m
  induction m with
  | zero =>
    intro e w1 pw1 l2 l3 he h41 hk hp hq
    have E := leT (a := fo + oc) (b := e) (by omega) (by omega)
    have k40 := (hk 40 (by decide)).trans h40
    have k30 := (hk 30 (by decide)).trans h30
    refine cx_run 100 mMa_shiftRows_mo ?_
    simp (decide := true) only [BmMa_shiftRows, BSC, k40, k30, E, EV, EW, CT, ev_o, ev_is, ev_gd, List.length_cons, List.length_nil, Nat.reduceLT, Nat.reduceAdd, Nat.reduceEqDiff, Nat.reduceLeDiff, Int32.reduceLT, Int32.reduceLE, reduceIte, true_and, and_true, true_or, or_true, not_true_eq_false, not_false_eq_true, false_imp_iff, true_imp_iff, implies_true]
    exact ⟨⟨pw1, h41, fun j hj => ⟨hp j (by omega), Nat.mod_lt _ (Nat.two_pow_pos _)⟩⟩, hk⟩
  | succ m ih =>
    intro e w1 pw1 l2 l3 he h41 hk hp hq
    have E := leF (a := fo + oc) (b := e) (by omega) (by omega)
    have k40 := (hk 40 (by decide)).trans h40
    have k30 := (hk 30 (by decide)).trans h30
    have k31 := (hk 31 (by decide)).trans h31
    have k33 := (hk 33 (by decide)).trans h33
    have k44 := (hk 44 (by decide)).trans h44
    have ve : vp_in (nI e) 196 := nI_in (by omega) (by decide)
    obtain ⟨d1, d2⟩ := hct e (by omega)
    obtain ⟨s1, s2⟩ := hsr e (by omega)
    obtain ⟨p1, p2⟩ := hpv e (by omega)
    have vs_ : vp_in (nI (S e)) 48 := nI_in s2 (by decide)
    have e1 := hv e (by omega)
    have q1 : pw1 e = lN (pv e) := (hq e (by omega)).trans p1
    have lp := l_push (a := pv e) (b := (v (S e)).toNat) (by cases v (S e) <;> decide)
    have lm : lN (2 * pv e + (v (S e)).toNat) &&& (Int32.toInt64 1 <<< ((nI (cn e)).toInt64 &&& 63) - Int32.toInt64 1) = lN (nxR v S cn pv e) := by
      have ee : Int32.toInt64 1 = (1 : Int64) := by decide
      rw [ee]; exact l_mask (by omega)
    refine cx_run 100 mMa_shiftRows_mo ?_
    simp (decide := true) only [BmMa_shiftRows, BSC, k40, k30, k31, k33, k44, h41, E, ve, vs_, d1, s1, q1, e1, lp, lm, nI_clamp (n := e) (by omega), nI_clamp (n := S e) (by omega), nI_1, EV, EW, CT, ev_o, ev_is, ev_gd, List.length_cons, List.length_nil, Nat.reduceLT, Nat.reduceAdd, Nat.reduceEqDiff, Nat.reduceLeDiff, Int32.reduceLT, Int32.reduceLE, reduceIte, true_and, and_true, true_or, or_true, not_true_eq_false, not_false_eq_true, false_imp_iff, true_imp_iff, implies_true]
    refine ih (e + 1) _ (vp_updL pw1 e (lN (nxR v S cn pv e))) _ _ (by omega) (by simp only [cx_up, Nat.reduceEqDiff, reduceIte]) (fun k z => by rw [← hk k z]; simp (disch := omega) only [cx_up, if_neg]) (fun j hj => ?_) (fun j hj => ?_)
    · by_cases z : j = e
      · subst z; rw [pk_uLs]
      · rw [pk_uLn z]; exact hp j (by omega)
    · rw [pk_uLn (by omega)]; exact hq j (by omega)
set_option maxHeartbeats 8000000 in
theorem c_Ma_shiftRows {w : cx_W} {n : Nat} {gt : Nat → Prop} {pl F : Nat → Nat} {fo oc : Nat} {S tbl cn pv : Nat → Nat} {gs ch pn tb sr fg gm ct vs : Nat → Int32} {pw : Nat → Int64} {v : Nat → Bool} {dd : Nat} (hA : ArW w n gt pl F fo oc S tbl cn gs ch pn tb sr fg gm ct) (h41 : w 41 = al 196 pw) (hpv : PvR fo oc cn pv pw) (h44 : w 44 = ai 48 vs) (hv : ∀ e, e < fo + oc → vs (S e) = nI (v (S e)).toNat) :
    cx_MC mMa_shiftRows (dd + 2) 0 0 [.ref 40] w 87 (fun r_ w2 => r_ = none ∧ (∃ pw, w2 41 = al 196 pw ∧ PvR fo oc cn (nxR v S cn pv) pw) ∧ ∀ k, ¬ k = 41 → w2 k = w k) := by
  refine cx_met 60 mMa_shiftRows_ok rfl ?_
  show cx_vc 60 none mMa_shiftRows (dd + 2) 0 0 _ _ 0 [some (.ref 40), none, none, none] [] w (87, 0, 0)
  simp only [BmMa_shiftRows, EV, EW, CT, ev_o, ev_is, ev_gd, List.length_cons, List.length_nil, Nat.reduceLT, Nat.reduceAdd, Nat.reduceEqDiff, Nat.reduceLeDiff, Int32.reduceLT, Int32.reduceLE, reduceIte, true_and, and_true, true_or, or_true, not_true_eq_false, not_false_eq_true, false_imp_iff, true_imp_iff, implies_true]
  exact msh_loop hA hpv h44 hv (fo + oc) 0 w pw _ _ (by omega) h41 (fun _ _ => rfl) (fun j h => by omega) (fun _ _ => rfl)
