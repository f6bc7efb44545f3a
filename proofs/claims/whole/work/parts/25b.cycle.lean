/-! A cycle of the retimed circuit: the given side. Own work. -/
set_option maxHeartbeats 8000000 in
theorem mrc_loop2 {w : cx_W} {n : Nat} {gt : Nat → Prop} {pl F : Nat → Nat} {fo oc nc ic lc : Nat} {S tbl cn pv : Nat → Nat} {gs ch pn tb sr fg gm ct vs nn nl dv on : Nat → Int32} {ib pb_ inp : Int32} {pw : Nat → Int64} {v : Nat → Bool} {Q : cx_Q} (hA : ArW w n gt pl F fo oc S tbl cn gs ch pn tb sr fg gm ct) (hC : CW w nc ic lc oc ib pb_ nn nl dv on) (hoc : oc ≤ 4) (h41 : w 41 = al 196 pw) (hpv : PvR fo oc cn pv pw) (h44 : w 44 = ai 48 vs) (hv : ∀ e, e < fo + oc → vs (S e) = nI (v (S e)).toNat)
    (hQ : ∀ w2 pw2, w2 41 = al 196 pw2 → PvR fo oc cn (nxR v S cn pv) pw2 → (∀ k, ¬ k = 41 → w2 k = w k) → Q (some (.int (nI (pb (fun o => arv v S cn pv (fo + o)) oc)))) w2 (87, 0, 0)) :
    ∀ (m o : Nat), o + m = oc →
    cx_OK none mMa_runCycle 10 0 0 Q 49 [some (.ref 40), some (.int inp), some (.int (nI (pb (fun o => arv v S cn pv (fo + o)) o))), some (.int (nI o))] [] w (87, 0, 0) := by
  have hA' := hA
  obtain ⟨⟨⟨hn, ⟨x13, h13⟩, h17, h19, h20, h24, h29, h30, h31, h35⟩, hG, hfo, hgd, hinj, hsr⟩, h1, h28, hB, h33, hct, h40⟩ := hA
  obtain ⟨h6, h7, h8, h9, h10⟩ := hC
  intro m
  induction m with
  | zero =>
    intro o ho
    have eo : o = oc := by omega
    subst eo
    have E := leT (a := o) (b := o) (by omega) (by omega)
    refine cx_run 100 mMa_runCycle_mo ?_
    simp (decide := true) only [BmMa_runCycle, BSC, h40, h6, E, EV, EW, CT, ev_o, ev_is, ev_gd, List.length_cons, List.length_nil, Nat.reduceLT, Nat.reduceAdd, Nat.reduceEqDiff, Nat.reduceLeDiff, Int32.reduceLT, Int32.reduceLE, reduceIte, true_and, and_true, true_or, or_true, not_true_eq_false, not_false_eq_true, false_imp_iff, true_imp_iff, implies_true]
    refine cx_cs1 9 0 0 (by decide) (c_Ma_shiftRows (dd := 7) hA' h41 hpv h44 hv) fun r_ w2 h2 => ?_
    obtain ⟨rfl, ⟨pw2, a, b⟩, c⟩ := h2
    simp (decide := true) only [BmMa_runCycle, EV, EW, CT, ev_o, ev_is, ev_gd, List.length_cons, List.length_nil, Nat.reduceLT, Nat.reduceAdd, Nat.reduceEqDiff, Nat.reduceLeDiff, Int32.reduceLT, Int32.reduceLE, reduceIte, true_and, and_true, true_or, or_true, not_true_eq_false, not_false_eq_true, false_imp_iff, true_imp_iff, implies_true]
    exact hQ w2 pw2 a b c
  | succ m ih =>
    intro o ho
    have E := leF (a := oc) (b := o) (by omega) (by omega)
    have ve : vp_in (nI (fo + o)) 196 := nI_in (by omega) (by decide)
    obtain ⟨d1, d2⟩ := hct (fo + o) (by omega)
    obtain ⟨s1, s2⟩ := hsr (fo + o) (by omega)
    obtain ⟨p1, p2⟩ := hpv (fo + o) (by omega)
    have vs_ : vp_in (nI (S (fo + o))) 48 := nI_in s2 (by decide)
    have po := pb_or (f := fun o => arv v S cn pv (fo + o)) (k := o) (by omega)
    refine cx_run 100 mMa_runCycle_mo ?_
    by_cases q : cn (fo + o) = 0
    · have Z : (nI (cn (fo + o)) = 0) = True := eq_true (by rw [q]; rfl)
      have e1 := hv (fo + o) (by omega)
      rw [← arv_z (v := v) (S := S) (cn := cn) (pv := pv) q] at e1
      simp (decide := true) only [BmMa_runCycle, BSC, h40, h6, h30, h31, h33, h44, ve, vs_, d1, s1, E, Z, e1, po, nI_add, nI_clamp (n := fo + o) (by omega), nI_clamp (n := S (fo + o)) (by omega), nI_1, EV, EW, CT, ev_o, ev_is, ev_gd, List.length_cons, List.length_nil, Nat.reduceLT, Nat.reduceAdd, Nat.reduceEqDiff, Nat.reduceLeDiff, Int32.reduceLT, Int32.reduceLE, reduceIte, true_and, and_true, true_or, or_true, not_true_eq_false, not_false_eq_true, false_imp_iff, true_imp_iff, implies_true]
      exact ih (o + 1) (by omega)
    · have Z : (nI (cn (fo + o)) = 0) = False := (z0 (by omega)).trans (eq_false q)
      obtain ⟨cm, hcm⟩ : ∃ cm, cn (fo + o) = cm + 1 := ⟨cn (fo + o) - 1, by omega⟩
      have h63 : (2 : Nat) ^ cn (fo + o) ≤ 2 ^ 61 := Nat.pow_le_pow_right (by decide) d2
      have m1 : nI (cn (fo + o)) - 1 = nI cm := by rw [hcm]; exact nI_pred _
      have lb := l_bit (a := pv (fo + o)) (k := cm) (by omega) (by omega)
      rw [← tb_bool, ← arv_p (v := v) (S := S) (cn := cn) (pv := pv) hcm] at lb
      simp (decide := true) only [BmMa_runCycle, BSC, h40, h6, h30, h31, h33, h41, ve, d1, p1, E, Z, m1, lb, po, nI_add, nI_clamp (n := fo + o) (by omega), nI_1, EV, EW, CT, ev_o, ev_is, ev_gd, List.length_cons, List.length_nil, Nat.reduceLT, Nat.reduceAdd, Nat.reduceEqDiff, Nat.reduceLeDiff, Int32.reduceLT, Int32.reduceLE, reduceIte, true_and, and_true, true_or, or_true, not_true_eq_false, not_false_eq_true, false_imp_iff, true_imp_iff, implies_true]
      exact ih (o + 1) (by omega)
set_option maxHeartbeats 8000000 in
theorem mrc_loop1 {w : cx_W} {G : Gr} {gt : Nat → Prop} {pl F : Nat → Nat} {fo oc nc ic lc : Nat} {S tbl cn pv od : Nat → Nat} {gs ch pn tb sr fg gm ct nn nl dv on or_ : Nat → Int32} {ib pb_ inp : Int32} {pw : Nat → Int64} {v : Nat → Bool} {Q : cx_Q} (hA : ArW w G.1 gt pl F fo oc S tbl cn gs ch pn tb sr fg gm ct) (hC : CW w nc ic lc oc ib pb_ nn nl dv on) (hoc : oc ≤ 4) (h41 : w 41 = al 196 pw) (hpv : PvR fo oc cn pv pw) (h42 : w 42 = ai 48 or_) (hO : OrI gt pl F S cn gt or_ od (rt_cnt gt G.1))
    (hs : ∀ e, e < fo + oc → gt (S e) ∨ (S e < G.1 ∧ G.2.1 (S e) = 0)) (hgk : ∀ g, gt g → ¬ G.2.1 g = 0) (hval : ∀ g, gt g → v g = (tbl g).testBit (pb (fun p => arv v S cn pv (F g + p)) (pl g)))
    (hQ : ∀ w2 pw2, w2 41 = al 196 pw2 → PvR fo oc cn (nxR v S cn pv) pw2 → (∃ vs, w2 44 = ai 48 vs) → (∀ k, ¬ k = 41 ∧ ¬ k = 44 → w2 k = w k) → Q (some (.int (nI (pb (fun o => arv v S cn pv (fo + o)) oc)))) w2 (87, 0, 0)) :
    ∀ (m i : Nat) (w1 : cx_W) (vs : Nat → Int32) (l3 : Option Value), i + m = rt_cnt gt G.1 → w1 44 = ai 48 vs → (∀ k, ¬ k = 44 → w1 k = w k) → (∀ j, j < G.1 → G.2.1 j = 0 → vs j = nI (v j).toNat) → (∀ k, k < i → vs (od k) = nI (v (od k)).toNat) →
    cx_OK none mMa_runCycle 10 0 0 Q 7 [some (.ref 40), some (.int inp), some (.int (nI i)), l3] [] w1 (87, 0, 0) := by
  have hA' := hA
  obtain ⟨⟨⟨hn, ⟨x13, h13⟩, h17, h19, h20, h24, h29, h30, h31, h35⟩, hG, hfo, hgd, hinj, hsr⟩, h1, h28, hB, h33, hct, h40⟩ := hA
  have hC' := hC
  have hcl := rt_cnt_le gt G.1
  obtain ⟨o1, o2, o3⟩ := hO
  intro m
  induction m with
  | zero =>
    intro i w1 vs l3 hi h44 hk hv0 hv1
    have E := leT (a := rt_cnt gt G.1) (b := i) (by omega) (by omega)
    have k40 := (hk 40 (by decide)).trans h40
    have k20 := (hk 20 (by decide)).trans h20
    refine cx_run 100 mMa_runCycle_mo ?_
    simp (decide := true) only [BmMa_runCycle, BSC, k40, k20, E, EV, EW, CT, ev_o, ev_is, ev_gd, List.length_cons, List.length_nil, Nat.reduceLT, Nat.reduceAdd, Nat.reduceEqDiff, Nat.reduceLeDiff, Int32.reduceLT, Int32.reduceLE, reduceIte, true_and, and_true, true_or, or_true, not_true_eq_false, not_false_eq_true, false_imp_iff, true_imp_iff, implies_true]
    obtain ⟨c6, c7, c8, c9, c10⟩ := hC
    refine mrc_loop2 (w := w1) (v := v) (hA'.of fun k z => hk k (by omega)) ⟨(hk 6 (by decide)).trans c6, (hk 7 (by decide)).trans c7, (hk 8 (by decide)).trans c8, (hk 9 (by decide)).trans c9, (hk 10 (by decide)).trans c10⟩ hoc ((hk 41 (by decide)).trans h41) hpv h44 (fun e he => ?_) (fun w2 pw2 a b c => hQ w2 pw2 a b ⟨vs, (c 44 (by decide)).trans h44⟩ fun k z => (c k z.1).trans (hk k z.2)) oc 0 (by omega)
    rcases hs e he with h | ⟨h, h2⟩
    · obtain ⟨k, k1, k2⟩ := (o2 _).mp h
      rw [← k2]; exact hv1 k (by omega)
    · exact hv0 _ h h2
  | succ m ih =>
    intro i w1 vs l3 hi h44 hk hv0 hv1
    have E := leF (a := rt_cnt gt G.1) (b := i) (by omega) (by omega)
    have k40 := (hk 40 (by decide)).trans h40
    have k20 := (hk 20 (by decide)).trans h20
    have k42 := (hk 42 (by decide)).trans h42
    have vi : vp_in (nI i) 48 := nI_in (by omega) (by decide)
    obtain ⟨p1, p2, p3⟩ := o1 i (by omega)
    have q1 := (hgd _ p2).1
    have vg : vp_in (nI (od i)) 48 := nI_in (by omega) (by decide)
    refine cx_run 100 mMa_runCycle_mo ?_
    simp (decide := true) only [BmMa_runCycle, BSC, k40, k20, k42, h44, E, vi, vg, p1, nI_clamp (n := i) (by omega), EV, EW, CT, ev_o, ev_is, ev_gd, List.length_cons, List.length_nil, Nat.reduceLT, Nat.reduceAdd, Nat.reduceEqDiff, Nat.reduceLeDiff, Int32.reduceLT, Int32.reduceLE, reduceIte, true_and, and_true, true_or, or_true, not_true_eq_false, not_false_eq_true, false_imp_iff, true_imp_iff, implies_true]
    refine cx_cs1 9 0 0 (by decide) (c_Ma_outputValue (dd := 6) (v := v) (hA'.of (w1 := w1) fun k z => hk k (by omega)) ((hk 41 (by decide)).trans h41) hpv h44 p2 (fun p hp hz => ?_)) fun r_ w2 h2 => ?_
    · rcases hs (F (od i) + p) (by have := (hgd _ p2).2.2.1; omega) with h | ⟨h, h2⟩
      · obtain ⟨j, j1, j2⟩ := p3 p hp hz h
        rw [← j2]; exact hv1 j j1
      · exact hv0 _ h h2
    · obtain ⟨rfl, rfl⟩ := h2
      simp (decide := true) only [BmMa_runCycle, h44, vg, nI_clamp (n := od i) (by omega), nI_1, EV, EW, CT, ev_o, ev_is, ev_gd, List.length_cons, List.length_nil, Nat.reduceLT, Nat.reduceAdd, Nat.reduceEqDiff, Nat.reduceLeDiff, Int32.reduceLT, Int32.reduceLE, reduceIte, true_and, and_true, true_or, or_true, not_true_eq_false, not_false_eq_true, false_imp_iff, true_imp_iff, implies_true]
      rw [← hval _ p2]
      refine ih (i + 1) _ (upd vs (od i) (nI (v (od i)).toNat)) _ (by omega) (by simp only [cx_up, Nat.reduceEqDiff, reduceIte]) (fun k z => by rw [← hk k z]; simp (disch := omega) only [cx_up, if_neg]) (fun j hj hz => ?_) (fun k hk2 => ?_)
      · rw [pk_un (fun e => hgk _ p2 (by rw [← e]; exact hz))]; exact hv0 j hj hz
      · by_cases e : k = i
        · subst e; rw [pk_us]
        · rw [pk_un (fun z => e (o3 k i (by omega) (by omega) z))]; exact hv1 k (by omega)
set_option maxHeartbeats 8000000 in
theorem c_Ma_runCycle {w : cx_W} {G : Gr} {gt : Nat → Prop} {pl F : Nat → Nat} {fo oc nc ic lc : Nat} {S tbl cn pv od : Nat → Nat} {gs ch pn tb sr fg gm ct nn nl dv on or_ vs ord : Nat → Int32} {ib pb_ inp : Int32} {pw : Nat → Int64} {v : Nat → Bool} (hA : ArW w G.1 gt pl F fo oc S tbl cn gs ch pn tb sr fg gm ct) (hG : GW w G) (h5 : w 5 = ai 48 ord) (hC : CW w nc ic lc oc ib pb_ nn nl dv on) (hoc : oc ≤ 4) (h41 : w 41 = al 196 pw) (hpv : PvR fo oc cn pv pw) (h42 : w 42 = ai 48 or_) (hO : OrI gt pl F S cn gt or_ od (rt_cnt gt G.1)) (h44 : w 44 = ai 48 vs)
    (hs : ∀ e, e < fo + oc → gt (S e) ∨ (S e < G.1 ∧ G.2.1 (S e) = 0)) (hgk : ∀ g, gt g → ¬ G.2.1 g = 0) (hval : ∀ g, gt g → v g = (tbl g).testBit (pb (fun p => arv v S cn pv (F g + p)) (pl g))) (hl0 : ∀ m, m < G.1 → G.2.1 m = 0 → ∃ k : Nat, ord m = nI k ∧ nI (v m).toNat = inp >>> (nI k &&& 31) &&& 1) :
    cx_MC mMa_runCycle 10 0 0 [.ref 40, .int inp] w 87 (fun r_ w2 => r_ = some (.int (nI (pb (fun o => arv v S cn pv (fo + o)) oc))) ∧ (∃ pw2, w2 41 = al 196 pw2 ∧ PvR fo oc cn (nxR v S cn pv) pw2) ∧ (∃ vs, w2 44 = ai 48 vs) ∧ ∀ k, ¬ k = 41 ∧ ¬ k = 44 → w2 k = w k) := by
  have hA' := hA
  obtain ⟨⟨⟨hn, _⟩, _⟩, h1, h28, hB, h33, hct, h40⟩ := hA
  refine cx_met 60 mMa_runCycle_ok rfl ?_
  show cx_vc 60 none mMa_runCycle 10 0 0 _ _ 0 [some (.ref 40), some (.int inp), none, none] [] w (87, 0, 0)
  simp (decide := true) only [BmMa_runCycle, h40, EV, EW, CT, ev_o, ev_is, ev_gd, List.length_cons, List.length_nil, Nat.reduceLT, Nat.reduceAdd, Nat.reduceEqDiff, Nat.reduceLeDiff, Int32.reduceLT, Int32.reduceLE, reduceIte, true_and, and_true, true_or, or_true, not_true_eq_false, not_false_eq_true, false_imp_iff, true_imp_iff, implies_true]
  refine cx_cs1 9 0 0 (by decide) (c_Ma_readInputs (dd := 7) (v := v) hG hn h40 h5 h44 hl0) fun r_ w2 h2 => ?_
  obtain ⟨rfl, ⟨vs2, a, b⟩, c⟩ := h2
  simp (decide := true) only [BmMa_runCycle, EV, EW, CT, ev_o, ev_is, ev_gd, List.length_cons, List.length_nil, Nat.reduceLT, Nat.reduceAdd, Nat.reduceEqDiff, Nat.reduceLeDiff, Int32.reduceLT, Int32.reduceLE, reduceIte, true_and, and_true, true_or, or_true, not_true_eq_false, not_false_eq_true, false_imp_iff, true_imp_iff, implies_true]
  obtain ⟨c6, c7, c8, c9, c10⟩ := hC
  refine mrc_loop1 (w := w2) (v := v) (hA'.of fun k z => c k (by omega)) ⟨(c 6 (by decide)).trans c6, (c 7 (by decide)).trans c7, (c 8 (by decide)).trans c8, (c 9 (by decide)).trans c9, (c 10 (by decide)).trans c10⟩ hoc ((c 41 (by decide)).trans h41) hpv ((c 42 (by decide)).trans h42) hO hs hgk hval (fun w3 pw3 p q r s => ⟨rfl, ⟨pw3, p, q⟩, r, fun k z => (s k z).trans (c k z.2)⟩) (rt_cnt gt G.1) 0 w2 vs2 _ (by omega) a (fun _ _ => rfl) b (fun k h => by omega)
/-- values of the gates: there are some -/
noncomputable def vGn (gt : Nat → Prop) (F pl S tbl cn pv : Nat → Nat) (iv : Nat → Bool) : Nat → Nat → Bool
  | 0, m => iv m
  | k + 1, m => @ite Bool (gt m) (Classical.propDecidable (gt m)) ((tbl m).testBit (pb (fun p => arv (vGn gt F pl S tbl cn pv iv k) S cn pv (F m + p)) (pl m))) (iv m)
theorem vG_still {gt : Nat → Prop} {F pl S tbl cn pv key : Nat → Nat} {iv : Nat → Bool} (hkey : ∀ g p, gt g → p < pl g → gt (S (F g + p)) → cn (F g + p) = 0 → key (S (F g + p)) < key g) : ∀ (k j m : Nat), key m < k → vGn gt F pl S tbl cn pv iv (k + j) m = vGn gt F pl S tbl cn pv iv k m := by
  intro k
  induction k with
  | zero => intro j m h; omega
  | succ k ih =>
    intro j m h
    rw [show k + 1 + j = (k + j) + 1 by omega, vGn, vGn]
    by_cases g : gt m
    · rw [if_pos g, if_pos g]
      congr 1
      refine pb_congr fun p hp => ?_
      unfold arv rt_ar
      by_cases z : cn (F m + p) = 0
      · rw [if_pos z, if_pos z]
        by_cases gs : gt (S (F m + p))
        · exact ih j _ (by have := hkey m p g hp gs z; omega)
        · have : ∀ i, vGn gt F pl S tbl cn pv iv i (S (F m + p)) = iv (S (F m + p)) := fun i => by
            cases i with
            | zero => rfl
            | succ i => rw [vGn, if_neg gs]
          rw [this, this]
      · rw [if_neg z, if_neg z]
    · rw [if_neg g, if_neg g]
theorem vG_ex {gt : Nat → Prop} {F pl S tbl cn pv key : Nat → Nat} (iv : Nat → Bool) (hkey : ∀ g p, gt g → p < pl g → gt (S (F g + p)) → cn (F g + p) = 0 → key (S (F g + p)) < key g) :
    ∃ v : Nat → Bool, (∀ m, ¬ gt m → v m = iv m) ∧ ∀ g, gt g → v g = (tbl g).testBit (pb (fun p => arv v S cn pv (F g + p)) (pl g)) := by
  refine ⟨fun m => vGn gt F pl S tbl cn pv iv (key m + 1) m, fun m h => by show vGn gt F pl S tbl cn pv iv (key m + 1) m = _; rw [vGn, if_neg h], fun g hg => ?_⟩
  show vGn gt F pl S tbl cn pv iv (key g + 1) g = _
  rw [vGn, if_pos hg]
  congr 1
  refine pb_congr fun p hp => ?_
  unfold arv rt_ar
  by_cases z : cn (F g + p) = 0
  · rw [if_pos z, if_pos z]
    by_cases gs : gt (S (F g + p))
    · have hk := hkey g p hg hp gs z
      have := vG_still (F := F) (pl := pl) (tbl := tbl) (pv := pv) (iv := iv) hkey (key (S (F g + p)) + 1) (key g - (key (S (F g + p)) + 1)) (S (F g + p)) (by omega)
      rw [show key (S (F g + p)) + 1 + (key g - (key (S (F g + p)) + 1)) = key g by omega] at this
      exact this
    · have : ∀ i, vGn gt F pl S tbl cn pv iv i (S (F g + p)) = iv (S (F g + p)) := fun i => by
        cases i with
        | zero => rfl
        | succ i => rw [vGn, if_neg gs]
      exact (this _).trans (this _).symm
  · rw [if_neg z, if_neg z]
