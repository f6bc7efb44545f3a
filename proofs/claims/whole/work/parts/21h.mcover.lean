/-! The cover of the reference: from its first row. Printed by gen_21h.py. -/
def fr7 (k : Nat) : Prop := fr6 k ∧ ¬ k = 68 ∧ ¬ k = 69
set_option maxHeartbeats 16000000 in
theorem mco_init {w : cx_W} {H : Gr} {kd px py : Nat → Nat} {need : Nat → Bool} {p A cost : Nat → Nat} {cc oc : Nat} {na dr no fi on rr pa ar lv gr : Nat → Int32} {nx fb ond : Nat → Nat} {x0 x1 x2 x6 x8 x9 : Int32} (hW : MkW w H kd px py na dr no fi nx fb) (hL : MlW w H kd px py (rtF H.1 kd px py need) rr pa) (h64 : w 64 = az 48 lv) (hlv : BR 48 lv (fun j => lvF H.1 kd px py need j = true)) (h62 : w 62 = ai 8 ar) (h60 : w 60 = ai 4 on) (hoc : oc ≤ 4) (hO : OutM H oc na on ond) (h70 : w 70 = az 48 gr) (hgr : BR 48 gr (fun _ => False)) (hcc : cc ≤ 8) (hC : CellsM cc pa ar p A) (hv : CovA H kd px py need p A cc cost) :
    ∀ (m i : Nat) (w1 : cx_W) (cs ch sp so la_ lp op : Nat → Int32) (st : Nat → Int64) (x7 : Int32) (l2 : Option Value), i + m = 196 → w1 45 = oM x0 x1 x2 (nI H.1) (nI oc) (nI cc) x6 x7 x8 x9 → w1 67 = ai 48 cs → w1 68 = ai 48 ch → w1 69 = ai 48 sp → w1 71 = ai 8 op → w1 72 = ai 4 lp → w1 73 = ai 196 so → w1 74 = ai 196 la_ → w1 75 = al 196 st → (∀ k, (frC k ∧ ¬ k = 73) → w1 k = w k) → ChMA H kd px py need p A cc cost cs ch sp H.1 → (∀ e, e < i → so e = -1) →
    cx_OK none mM_cover 11 0 0 (fun r w2 _ => r = none ∧ MCov w2 (fun x => chn (laN H) nx fb x 7) (gtF H.1 kd px py need p A cc cost) (fun g => (chosen kd px py (rtF H.1 kd px py need) p A cc cost g).2.2) oc ond ∧ (∃ cs ch sp lp op x7, w2 45 = oM x0 x1 x2 (nI H.1) (nI oc) (nI cc) x6 x7 x8 x9 ∧ w2 67 = ai 48 cs ∧ w2 68 = ai 48 ch ∧ w2 69 = ai 48 sp ∧ w2 71 = ai 8 op ∧ w2 72 = ai 4 lp ∧ ChMA H kd px py need p A cc cost cs ch sp H.1) ∧ ∀ k, fr7 k → w2 k = w k) 44 [some (.ref 45), some (.int (nI i)), l2] [] w1 (87, 0, 0) := by
  have hW' := hW
  have hL' := hL
  obtain ⟨h47, h48, h50, h56, h59, hn, hK, hD, hF⟩ := hW
  have hgd := gd_m hv
  intro m
  induction m with
  | zero =>
    intro i w1 cs ch sp so la_ lp op st x7 l2 hi h45 h67 h68 h69 h71 h72 h73 h74 h75 hk hA hs
    have e : i = 196 := by omega
    subst e
    have E : ((196 : Int32) ≤ nI 196) = True := eq_true (by decide)
    refine cx_run 100 mM_cover_mo ?_
    simp (decide := true) only [BmM_cover, h45, E, EV, EW, CT, ev_o, ev_is, ev_gd, List.length_cons, List.length_nil, Nat.reduceLT, Nat.reduceAdd, Nat.reduceEqDiff, Nat.reduceLeDiff, Int32.reduceLT, Int32.reduceLE, reduceIte, true_and, and_true, true_or, or_true, not_true_eq_false, not_false_eq_true, false_imp_iff, true_imp_iff, implies_true]
    refine cx_OK_mono (fun r w2 u q => ⟨q.1, q.2.1, ?_, fun k z => ?_⟩) (mco_desc (w := w1) (x0 := x0) (x1 := x1) (x2 := x2) (x3 := nI H.1) (x5 := nI cc) (x6 := x6) (x8 := x8) (x9 := x9) (hW'.of fun k q => hk k (by unfold frC; omega)) (hL'.of fun k q => hk k (by unfold frC; omega)) ((hk 62 (by unfold frC; decide)).trans h62) ((hk 60 (by unfold frC; decide)).trans h60) hoc hO h68 h69 hcc hC hv H.1 w1 cs gr so la_ lp op st x7 _ (Nat.le_refl _) h45 h67 ((hk 70 (by unfold frC; decide)).trans h70) h71 h72 h73 h74 h75 (fun _ _ => rfl) hA (by rw [Nat.sub_self]; exact hgr) ⟨fun g h1 h2 => absurd (hgd _ g h2).1 (by omega), fun e h1 _ => hs e (by omega)⟩ (fun e h1 h2 => hs e h2))
    · obtain ⟨cs2, lp2, op2, y7, a1, a2, a3, a4, a5⟩ := q.2.2.1
      exact ⟨cs2, ch, sp, lp2, op2, y7, a1, a2, (q.2.2.2 68 (by unfold fr6; decide)).trans h68, (q.2.2.2 69 (by unfold fr6; decide)).trans h69, a3, a4, a5⟩
    · have z1 := z.1
      have z2 := z
      unfold fr7 fr6 at z2
      exact (q.2.2.2 k z1).trans (hk k (by unfold frC; omega))
  | succ m ih =>
    intro i w1 cs ch sp so la_ lp op st x7 l2 hi h45 h67 h68 h69 h71 h72 h73 h74 h75 hk hA hs
    have E : ((196 : Int32) ≤ nI i) = False := (lek (a := i) (c := 196) (x := 196) rfl (by omega) (by decide)).trans (eq_false (by omega))
    have v1 : vp_in (nI i) 196 := nI_in (by omega) (by decide)
    refine cx_run 100 mM_cover_mo ?_
    simp (decide := true) only [BmM_cover, h45, h73, E, v1, nI_clamp (n := i) (by omega), nI_1, EV, EW, CT, ev_o, ev_is, ev_gd, List.length_cons, List.length_nil, Nat.reduceLT, Nat.reduceAdd, Nat.reduceEqDiff, Nat.reduceLeDiff, Int32.reduceLT, Int32.reduceLE, reduceIte, true_and, and_true, true_or, or_true, not_true_eq_false, not_false_eq_true, false_imp_iff, true_imp_iff, implies_true]
    refine ih (i + 1) _ cs ch sp (upd so i (-1)) la_ lp op st x7 _ (by omega) (by simp only [cx_up, Nat.reduceEqDiff, reduceIte]; exact h45) (by simp only [cx_up, Nat.reduceEqDiff, reduceIte]; exact h67) (by simp only [cx_up, Nat.reduceEqDiff, reduceIte]; exact h68) (by simp only [cx_up, Nat.reduceEqDiff, reduceIte]; exact h69) (by simp only [cx_up, Nat.reduceEqDiff, reduceIte]; exact h71) (by simp only [cx_up, Nat.reduceEqDiff, reduceIte]; exact h72) (by simp only [cx_up, Nat.reduceEqDiff, reduceIte]) (by simp only [cx_up, Nat.reduceEqDiff, reduceIte]; exact h74) (by simp only [cx_up, Nat.reduceEqDiff, reduceIte]; exact h75) (fun k q => by rw [← hk k q]; simp (disch := omega) only [cx_up, if_neg]) hA (fun e he => ?_)
    by_cases q : e = i
    · rw [q]; exact pk_us
    · rw [pk_un q]; exact hs e (by omega)
set_option maxHeartbeats 16000000 in
theorem mco_loop {w : cx_W} {H : Gr} {kd px py : Nat → Nat} {need : Nat → Bool} {p A cost : Nat → Nat} {cc oc : Nat} {na dr no fi on rr pa ar lv gr : Nat → Int32} {nx fb ond : Nat → Nat} {x0 x1 x2 x6 x8 x9 : Int32} (hW : MkW w H kd px py na dr no fi nx fb) (hL : MlW w H kd px py (rtF H.1 kd px py need) rr pa) (h64 : w 64 = az 48 lv) (hlv : BR 48 lv (fun j => lvF H.1 kd px py need j = true)) (h62 : w 62 = ai 8 ar) (h60 : w 60 = ai 4 on) (hoc : oc ≤ 4) (hO : OutM H oc na on ond) (h70 : w 70 = az 48 gr) (hgr : BR 48 gr (fun _ => False)) (hcc : cc ≤ 8) (hC : CellsM cc pa ar p A) (hv : CovA H kd px py need p A cc cost) {so la_ : Nat → Int32} {st : Nat → Int64} (h73 : w 73 = ai 196 so) (h74 : w 74 = ai 196 la_) (h75 : w 75 = al 196 st) :
    ∀ (m i : Nat) (w1 : cx_W) (cs ch sp lp op : Nat → Int32) (x7 : Int32) (l2 : Option Value), i + m = H.1 → w1 45 = oM x0 x1 x2 (nI H.1) (nI oc) (nI cc) x6 x7 x8 x9 → w1 67 = ai 48 cs → w1 68 = ai 48 ch → w1 69 = ai 48 sp → w1 71 = ai 8 op → w1 72 = ai 4 lp → (∀ k, frC k → w1 k = w k) → ChMA H kd px py need p A cc cost cs ch sp i →
    cx_OK none mM_cover 11 0 0 (fun r w2 _ => r = none ∧ MCov w2 (fun x => chn (laN H) nx fb x 7) (gtF H.1 kd px py need p A cc cost) (fun g => (chosen kd px py (rtF H.1 kd px py need) p A cc cost g).2.2) oc ond ∧ (∃ cs ch sp lp op x7, w2 45 = oM x0 x1 x2 (nI H.1) (nI oc) (nI cc) x6 x7 x8 x9 ∧ w2 67 = ai 48 cs ∧ w2 68 = ai 48 ch ∧ w2 69 = ai 48 sp ∧ w2 71 = ai 8 op ∧ w2 72 = ai 4 lp ∧ ChMA H kd px py need p A cc cost cs ch sp H.1) ∧ ∀ k, fr7 k → w2 k = w k) 6 [some (.ref 45), some (.int (nI i)), l2] [] w1 (87, 0, 0) := by
  have hW' := hW
  have hL' := hL
  obtain ⟨h47, h48, h50, h56, h59, hn, hK, hD, hF⟩ := hW
  intro m
  induction m with
  | zero =>
    intro i w1 cs ch sp lp op x7 l2 hi h45 h67 h68 h69 h71 h72 hk hA
    have e : i = H.1 := by omega
    subst e
    have E := leT (a := H.1) (b := H.1) (by omega) (by omega)
    refine cx_run 100 mM_cover_mo ?_
    simp (decide := true) only [BmM_cover, h45, E, EV, EW, CT, ev_o, ev_is, ev_gd, List.length_cons, List.length_nil, Nat.reduceLT, Nat.reduceAdd, Nat.reduceEqDiff, Nat.reduceLeDiff, Int32.reduceLT, Int32.reduceLE, reduceIte, true_and, and_true, true_or, or_true, not_true_eq_false, not_false_eq_true, false_imp_iff, true_imp_iff, implies_true]
    exact mco_init (w := w) hW' hL' h64 hlv h62 h60 hoc hO h70 hgr hcc hC hv 196 0 w1 cs ch sp so la_ lp op st x7 _ (by omega) h45 h67 h68 h69 h71 h72 ((hk 73 (by unfold frC; decide)).trans h73) ((hk 74 (by unfold frC; decide)).trans h74) ((hk 75 (by unfold frC; decide)).trans h75) (fun k q => hk k q.1) hA (fun e h => by omega)
  | succ m ih =>
    intro i w1 cs ch sp lp op x7 l2 hi h45 h67 h68 h69 h71 h72 hk hA
    have E := leF (a := H.1) (b := i) (by omega) (by omega)
    have k56 := (hk 56 (by unfold frC; decide)).trans h56
    have k64 := (hk 64 (by unfold frC; decide)).trans h64
    have v1 : vp_in (nI i) 48 := nI_in (by omega) (by decide)
    have ⟨d1, d2, d3, d4⟩ := hK i (by omega)
    have hcsx : ∀ x, x < i → lvF H.1 kd px py need x = true → nr kd (rtF H.1 kd px py need) x → cs x = nI (cost x) := fun x hx hlx hrx => by
      have v := hv x (by omega) hlx hrx.1
      rw [(hA x (by omega) hlx hrx.1).1, ← v.2.1]
    have hP : lvF H.1 kd px py need i = true → PinsC kd px py (rtF H.1 kd px py need) p cc i cost cs := fun hl c sw pins hc h => by
      have hp := (hC c hc).1
      have ⟨q1, q2⟩ := pats_ne hp
      have ⟨t1, _⟩ := lay_top hK.wf (show i < H.1 by omega) q1 q2 h
      have hcl : ∀ k, k < H.1 → lvF H.1 kd px py need k = true → (kd k = 2 → px k < H.1 ∧ lvF H.1 kd px py need (px k) = true) ∧ (kd k = 3 → (px k < H.1 ∧ lvF H.1 kd px py need (px k) = true) ∧ (py k < H.1 ∧ lvF H.1 kd px py need (py k) = true)) := fun k hk hl => by
        have ⟨a, b⟩ := lv_part hK.wf k hk hl
        have ⟨c, d⟩ := hK.wf k hk
        exact ⟨fun e => ⟨by have := c e; omega, a e⟩, fun e => ⟨⟨by have := d e; omega, (b e).1⟩, ⟨by have := d e; omega, (b e).2⟩⟩⟩
      have t3 := lay_lv hcl _ _ _ _ _ _ (fun x hx => by rw [List.mem_singleton.mp hx]; exact ⟨show i < H.1 by omega, hl⟩) (fun x hx => absurd hx (by simp)) h
      have t4 := lay_len _ _ _ _ _ _ h
      refine ⟨by rw [t4, (pats_pt hp).2.1]; simp, fun x hx => ⟨t1 x hx, fun hr => ⟨hcsx x (t1 x hx) (t3 x hx).2 hr, (hv x (t3 x hx).1 (t3 x hx).2 hr.1).2.2.1⟩⟩⟩
    have skip : ¬ (lvF H.1 kd px py need i = true ∧ (kd i = 2 ∨ kd i = 3)) → ChMA H kd px py need p A cc cost cs ch sp (i + 1) := fun q m hm hl hg => by
      by_cases e : m = i
      · subst e; exact absurd ⟨hl, hg⟩ q
      · exact hA m (by omega) hl hg
    refine cx_run 100 mM_cover_mo ?_
    by_cases lvi : lvF H.1 kd px py need i = true
    · have F : lv i = 1 := (hlv i (by omega)).1 lvi
      rcases (show kd i = 0 ∨ kd i = 1 ∨ kd i = 2 ∨ kd i = 3 by omega) with kk | kk | kk | kk
      · have KD : H.2.1 i = 0 := by rw [d1, kk]; rfl
        simp (decide := true) only [KD, BmM_cover, BSM, h45, k56, k64, E, v1, F, nI_clamp (n := i) (by omega), nI_1, EV, EW, CT, ev_o, ev_is, ev_gd, List.length_cons, List.length_nil, Nat.reduceLT, Nat.reduceAdd, Nat.reduceEqDiff, Nat.reduceLeDiff, Int32.reduceLT, Int32.reduceLE, reduceIte, true_and, and_true, true_or, or_true, not_true_eq_false, not_false_eq_true, false_imp_iff, true_imp_iff, implies_true]
        exact ih (i + 1) w1 cs ch sp lp op x7 _ (by omega) h45 h67 h68 h69 h71 h72 hk (skip fun q => by omega)
      · have KD : H.2.1 i = 1 := by rw [d1, kk]; rfl
        simp (decide := true) only [KD, BmM_cover, BSM, h45, k56, k64, E, v1, F, nI_clamp (n := i) (by omega), nI_1, EV, EW, CT, ev_o, ev_is, ev_gd, List.length_cons, List.length_nil, Nat.reduceLT, Nat.reduceAdd, Nat.reduceEqDiff, Nat.reduceLeDiff, Int32.reduceLT, Int32.reduceLE, reduceIte, true_and, and_true, true_or, or_true, not_true_eq_false, not_false_eq_true, false_imp_iff, true_imp_iff, implies_true]
        exact ih (i + 1) w1 cs ch sp lp op x7 _ (by omega) h45 h67 h68 h69 h71 h72 hk (skip fun q => by omega)
      · have KD : H.2.1 i = 3 := by rw [d1, kk]; rfl
        simp (decide := true) only [KD, BmM_cover, BSM, h45, k56, k64, E, v1, F, nI_clamp (n := i) (by omega), nI_1, EV, EW, CT, ev_o, ev_is, ev_gd, List.length_cons, List.length_nil, Nat.reduceLT, Nat.reduceAdd, Nat.reduceEqDiff, Nat.reduceLeDiff, Int32.reduceLT, Int32.reduceLE, reduceIte, true_and, and_true, true_or, or_true, not_true_eq_false, not_false_eq_true, false_imp_iff, true_imp_iff, implies_true]
        refine cx_cs1 10 0 0 (by decide) (c_M_choose (cost := cost) (Lv := fun x => lvF H.1 kd px py need x = true) (hL'.of fun k q => hk k (by unfold frC; omega)) h45 ((hk 62 (by unfold frC; decide)).trans h62) h67 h68 h69 h71 h72 hcc hC (show i < H.1 by omega) (hP lvi) hcsx (lv_cm hK.wf) lvi hK.wf) fun r w2 h2 => ?_
        obtain ⟨rfl, ⟨cs2, ch2, sp2, lp2, op2, y7, a45, a67, a68, a69, a71, a72, aj, aR⟩, ak⟩ := h2
        simp (decide := true) only [BmM_cover, nI_1, EV, EW, CT, ev_o, ev_is, ev_gd, List.length_cons, List.length_nil, Nat.reduceLT, Nat.reduceAdd, Nat.reduceEqDiff, Nat.reduceLeDiff, Int32.reduceLT, Int32.reduceLE, reduceIte, true_and, and_true, true_or, or_true, not_true_eq_false, not_false_eq_true, false_imp_iff, true_imp_iff, implies_true]
        refine ih (i + 1) w2 cs2 ch2 sp2 lp2 op2 y7 _ (by omega) a45 a67 a68 a69 a71 a72 (fun k q => (ak k q).trans (hk k q)) (fun m hm hlm hgm => ?_)
        by_cases e : m = i
        · subst e; exact aR
        · have ⟨b1, b2⟩ := hA m (by omega) hlm hgm
          have ⟨c1, c2, c3⟩ := aj m e
          exact ⟨by rw [c1]; exact b1, fun c sw pins h => by rw [c2, c3]; exact b2 c sw pins h⟩
      · have KD : H.2.1 i = 2 := by rw [d1, kk]; rfl
        simp (decide := true) only [KD, BmM_cover, BSM, h45, k56, k64, E, v1, F, nI_clamp (n := i) (by omega), nI_1, EV, EW, CT, ev_o, ev_is, ev_gd, List.length_cons, List.length_nil, Nat.reduceLT, Nat.reduceAdd, Nat.reduceEqDiff, Nat.reduceLeDiff, Int32.reduceLT, Int32.reduceLE, reduceIte, true_and, and_true, true_or, or_true, not_true_eq_false, not_false_eq_true, false_imp_iff, true_imp_iff, implies_true]
        refine cx_cs1 10 0 0 (by decide) (c_M_choose (cost := cost) (Lv := fun x => lvF H.1 kd px py need x = true) (hL'.of fun k q => hk k (by unfold frC; omega)) h45 ((hk 62 (by unfold frC; decide)).trans h62) h67 h68 h69 h71 h72 hcc hC (show i < H.1 by omega) (hP lvi) hcsx (lv_cm hK.wf) lvi hK.wf) fun r w2 h2 => ?_
        obtain ⟨rfl, ⟨cs2, ch2, sp2, lp2, op2, y7, a45, a67, a68, a69, a71, a72, aj, aR⟩, ak⟩ := h2
        simp (decide := true) only [BmM_cover, nI_1, EV, EW, CT, ev_o, ev_is, ev_gd, List.length_cons, List.length_nil, Nat.reduceLT, Nat.reduceAdd, Nat.reduceEqDiff, Nat.reduceLeDiff, Int32.reduceLT, Int32.reduceLE, reduceIte, true_and, and_true, true_or, or_true, not_true_eq_false, not_false_eq_true, false_imp_iff, true_imp_iff, implies_true]
        refine ih (i + 1) w2 cs2 ch2 sp2 lp2 op2 y7 _ (by omega) a45 a67 a68 a69 a71 a72 (fun k q => (ak k q).trans (hk k q)) (fun m hm hlm hgm => ?_)
        by_cases e : m = i
        · subst e; exact aR
        · have ⟨b1, b2⟩ := hA m (by omega) hlm hgm
          have ⟨c1, c2, c3⟩ := aj m e
          exact ⟨by rw [c1]; exact b1, fun c sw pins h => by rw [c2, c3]; exact b2 c sw pins h⟩
    · have F : lv i = 0 := (hlv i (by omega)).2 lvi
      simp (decide := true) only [BmM_cover, BSM, h45, k56, k64, E, v1, F, nI_clamp (n := i) (by omega), nI_1, EV, EW, CT, ev_o, ev_is, ev_gd, List.length_cons, List.length_nil, Nat.reduceLT, Nat.reduceAdd, Nat.reduceEqDiff, Nat.reduceLeDiff, Int32.reduceLT, Int32.reduceLE, reduceIte, true_and, and_true, true_or, or_true, not_true_eq_false, not_false_eq_true, false_imp_iff, true_imp_iff, implies_true]
      exact ih (i + 1) w1 cs ch sp lp op x7 _ (by omega) h45 h67 h68 h69 h71 h72 hk (skip fun q => lvi q.1)
def fr8 (k : Nat) : Prop := fr7 k ∧ fr4 k
set_option maxHeartbeats 16000000 in
theorem c_M_cover {w : cx_W} {H : Gr} {kd px py : Nat → Nat} {need : Nat → Bool} {p A cost : Nat → Nat} {nc cc oc : Nat} {so_ na dr no fi on pa ar lv0 rt0 gt0 rd0 cs0 ch0 sp0 lp0 op0 so0 la0 : Nat → Int32} {st0 : Nat → Int64} {nx fb ond dn : Nat → Nat} {x1 x2 x6 x7 x8 x9 : Int32} (hW : MkW w H kd px py na dr no fi nx fb) (h45 : w 45 = oM (nI nc) x1 x2 (nI H.1) (nI oc) (nI cc) x6 x7 x8 x9) (h46 : w 46 = ai 40 so_) (h57 : w 57 = ai 48 H.2.2.1) (h58 : w 58 = ai 48 H.2.2.2) (h60 : w 60 = ai 4 on) (h61 : w 61 = ai 8 pa) (h62 : w 62 = ai 8 ar) (hM : MrW w lv0 rt0 gt0 rd0) (h67 : w 67 = ai 48 cs0) (h68 : w 68 = ai 48 ch0) (h69 : w 69 = ai 48 sp0) (h71 : w 71 = ai 8 op0) (h72 : w 72 = ai 4 lp0) (h73 : w 73 = ai 196 so0) (h74 : w 74 = ai 196 la0) (h75 : w 75 = al 196 st0)
    (hnc : nc ≤ 40) (hoc : oc ≤ 4) (hcc : cc ≤ 8) (hDn : DrvN H nc so_ dr na dn) (hO : OutM H oc na on ond) (hneed : ∀ j, need j = true ↔ ((∃ o, o < oc ∧ ond o = j) ∨ ∃ i, i < nc ∧ so_ i = 1 ∧ dn i = j)) (hC : CellsM cc pa ar p A) (hv : CovA H kd px py need p A cc cost) :
    cx_MC mM_cover 11 0 0 [.ref 45] w 87 (fun r w2 => r = none ∧ MCov w2 (fun x => chn (laN H) nx fb x 7) (gtF H.1 kd px py need p A cc cost) (fun g => (chosen kd px py (rtF H.1 kd px py need) p A cc cost g).2.2) oc ond ∧ (∃ cs ch sp lp op x7, w2 45 = oM (nI nc) x1 x2 (nI H.1) (nI oc) (nI cc) x6 x7 x8 x9 ∧ w2 67 = ai 48 cs ∧ w2 68 = ai 48 ch ∧ w2 69 = ai 48 sp ∧ w2 71 = ai 8 op ∧ w2 72 = ai 4 lp ∧ ChMA H kd px py need p A cc cost cs ch sp H.1) ∧ (∃ lv rr rd, w2 64 = az 48 lv ∧ w2 65 = az 48 rr ∧ w2 66 = ai 48 rd) ∧ ∀ k, fr8 k → w2 k = w k) := by
  have hW' := hW
  obtain ⟨h47, h48, h50, h56, h59, hn, hK, hD, hF⟩ := hW
  refine cx_met 100 mM_cover_ok rfl ?_
  show cx_vc 100 none mM_cover 11 0 0 _ _ 0 [some (.ref 45), none, none] [] w (87, 0, 0)
  simp (decide := true) only [BmM_cover, h45, EV, EW, CT, ev_o, ev_is, ev_gd, List.length_cons, List.length_nil, Nat.reduceLT, Nat.reduceAdd, Nat.reduceEqDiff, Nat.reduceLeDiff, Int32.reduceLT, Int32.reduceLE, reduceIte, true_and, and_true, true_or, or_true, not_true_eq_false, not_false_eq_true, false_imp_iff, true_imp_iff, implies_true]
  refine cx_cs1 10 0 0 (by decide) (c_M_findRoots (dd := 8) (need := need) h45 h56 h57 h58 hn hK h46 h47 h50 h60 hM hnc hoc hDn hO hneed) fun r w2 h2 => ?_
  obtain ⟨rfl, ⟨lv, rt, gt, rd, ⟨m64, m65, m70, m66⟩, b1, b2, b3, b4⟩, ak⟩ := h2
  simp (decide := true) only [BmM_cover, EV, EW, CT, ev_o, ev_is, ev_gd, List.length_cons, List.length_nil, Nat.reduceLT, Nat.reduceAdd, Nat.reduceEqDiff, Nat.reduceLeDiff, Int32.reduceLT, Int32.reduceLE, reduceIte, true_and, and_true, true_or, or_true, not_true_eq_false, not_false_eq_true, false_imp_iff, true_imp_iff, implies_true]
  refine cx_OK_mono (fun r w3 u q => ⟨q.1, q.2.1, q.2.2.1, ⟨lv, rt, rd, (q.2.2.2 64 (by unfold fr7 fr6; decide)).trans m64, (q.2.2.2 65 (by unfold fr7 fr6; decide)).trans m65, (q.2.2.2 66 (by unfold fr7 fr6; decide)).trans m66⟩, fun k z => (q.2.2.2 k z.1).trans (ak k z.2)⟩)
    (mco_loop (w := w2) (x0 := nI nc) (x1 := x1) (x2 := x2) (x6 := x6) (x8 := x8) (x9 := x9) (hW'.of fun k q => ak k (by unfold fr4; omega)) ⟨(ak 56 (by unfold fr4; decide)).trans h56, (ak 57 (by unfold fr4; decide)).trans h57, (ak 58 (by unfold fr4; decide)).trans h58, hn, hK, (ak 61 (by unfold fr4; decide)).trans h61, m65, b2⟩ m64 b1 ((ak 62 (by unfold fr4; decide)).trans h62) ((ak 60 (by unfold fr4; decide)).trans h60) hoc hO m70 b3 hcc hC hv ((ak 73 (by unfold fr4; decide)).trans h73) ((ak 74 (by unfold fr4; decide)).trans h74) ((ak 75 (by unfold fr4; decide)).trans h75) H.1 0 w2 cs0 ch0 sp0 lp0 op0 x7 _ (by omega) ((ak 45 (by unfold fr4; decide)).trans h45) ((ak 67 (by unfold fr4; decide)).trans h67) ((ak 68 (by unfold fr4; decide)).trans h68) ((ak 69 (by unfold fr4; decide)).trans h69) ((ak 71 (by unfold fr4; decide)).trans h71) ((ak 72 (by unfold fr4; decide)).trans h72) (fun _ _ => rfl) (fun m h => by omega))
