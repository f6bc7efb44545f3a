/-! All connections: the given side. Own work. -/
theorem rt_cnt_ex {gt : Nat → Prop} {n : Nat} : ∀ {i : Nat}, i < rt_cnt gt n → ∃ g, g < n ∧ gt g ∧ rt_cnt gt g = i := by
  induction n with
  | zero => intro i h; exact absurd h (by simp [rt_cnt])
  | succ n ih =>
    intro i h
    rw [rt_cnt] at h
    by_cases q : gt n
    · rw [if_pos q] at h
      by_cases e : i = rt_cnt gt n
      · exact ⟨n, by omega, q, e.symm⟩
      · have ⟨g, a, b, c⟩ := ih (show i < rt_cnt gt n by omega)
        exact ⟨g, by omega, b, c⟩
    · rw [if_neg q] at h
      have ⟨g, a, b, c⟩ := ih (show i < rt_cnt gt n by omega)
      exact ⟨g, by omega, b, c⟩
theorem rt_cnt_inj {gt : Nat → Prop} {g h : Nat} (hg : gt g) (hh : gt h) (e : rt_cnt gt g = rt_cnt gt h) : g = h := by
  by_cases l : g < h
  · have := rt_cnt_up hg l; omega
  · by_cases l2 : h < g
    · have := rt_cnt_up hh l2; omega
    · omega
/-- where each gate's connections begin; lo: gates of that rank and above are in -/
def CnF (gt : Nat → Prop) (pins : Nat → List Nat) (F : Nat → Nat) (size lo : Nat) : Prop :=
  (∀ g, gt g → lo ≤ rt_cnt gt g → F g + (pins g).length ≤ size) ∧ (∀ e, e < size → ∃ g p, gt g ∧ lo ≤ rt_cnt gt g ∧ p < (pins g).length ∧ e = F g + p) ∧
  ∀ g g', gt g → gt g' → lo ≤ rt_cnt gt g → lo ≤ rt_cnt gt g' → ¬ g = g' → F g + (pins g).length ≤ F g' ∨ F g' + (pins g').length ≤ F g
def CnR (chf : Nat → Nat × Nat × Nat) (gt : Nat → Prop) (pins : Nat → List Nat) (F : Nat → Nat) (lo : Nat) (sr tg ct : Nat → Int32) (rw : Nat → Int64) (fg : Nat → Int32) : Prop :=
  ∀ g, gt g → lo ≤ rt_cnt gt g → fg g = nI (F g) ∧ CnA chf sr tg ct rw (F g) (nI g) (pins g) (pins g).length
/-- what the connecting leaves -/
def CnW (w : cx_W) (chf : Nat → Nat × Nat × Nat) (gt : Nat → Prop) (pins : Nat → List Nat) (F : Nat → Nat) (fo oc : Nat) (ond : Nat → Nat) : Prop :=
  w 30 = oCn (nI fo) (nI (fo + oc)) ∧ fo + oc ≤ 196 ∧ CnF gt pins F fo 0 ∧ ∃ sr tg ct rw fg, w 31 = ai 196 sr ∧ w 32 = ai 196 tg ∧ w 33 = ai 196 ct ∧ w 34 = al 196 rw ∧ w 35 = ai 48 fg ∧ CnR chf gt pins F 0 sr tg ct rw fg ∧
    ∀ o, o < oc → sr (fo + o) = nI (chf (ond o)).1 ∧ tg (fo + o) = -1 ∧ ct (fo + o) = nI (chf (ond o)).2.1 ∧ rw (fo + o) = lN (chf (ond o)).2.2
def ConC (w : cx_W) (G : Gr) (nc ic lc oc B : Nat) (pb : Int32) (nn nl dv on od : Nat → Int32) (drv ol ond : Nat → Nat) : Prop :=
  GW w G ∧ G.1 ≤ 48 ∧ w 5 = ai 48 od ∧ CW w nc ic lc oc (nI B) pb nn nl dv on ∧ lc ≤ 6 ∧ oc ≤ 4 ∧ B < 2 ^ 31 ∧ DrvC G lc nn dv od drv ol ∧ OutC G oc nn on ond
theorem ConC.of {w w1 : cx_W} {G : Gr} {nc ic lc oc B : Nat} {pb : Int32} {nn nl dv on od : Nat → Int32} {drv ol ond : Nat → Nat} (h : ConC w G nc ic lc oc B pb nn nl dv on od drv ol ond) (hk : ∀ k, k < 11 → w1 k = w k) : ConC w1 G nc ic lc oc B pb nn nl dv on od drv ol ond := by
  obtain ⟨⟨g1, g2, g3, g4⟩, hn, h5, ⟨h6, h7, h8, h9, h10⟩, r⟩ := h
  exact ⟨⟨(hk 1 (by omega)).trans g1, (hk 2 (by omega)).trans g2, (hk 3 (by omega)).trans g3, (hk 4 (by omega)).trans g4⟩, hn, (hk 5 (by omega)).trans h5, ⟨(hk 6 (by omega)).trans h6, (hk 7 (by omega)).trans h7, (hk 8 (by omega)).trans h8, (hk 9 (by omega)).trans h9, (hk 10 (by omega)).trans h10⟩, r⟩
set_option maxHeartbeats 8000000 in
theorem cn_out {w : cx_W} {G : Gr} {nc ic lc oc B fo : Nat} {pb : Int32} {nn nl dv on od sr0 tg0 ct0 : Nat → Int32} {rw0 : Nat → Int64} {drv ol ond : Nat → Nat} {Q : cx_Q} (hW : ConC w G nc ic lc oc B pb nn nl dv on od drv ol ond) (hf : fo + oc ≤ 196)
    (hQ : ∀ (w1 : cx_W) (sr tg ct : Nat → Int32) (rw : Nat → Int64), w1 30 = oCn (nI fo) (nI (fo + oc)) → w1 31 = ai 196 sr → w1 32 = ai 196 tg → w1 33 = ai 196 ct → w1 34 = al 196 rw → (∀ k, k < 30 ∨ 34 < k → w1 k = w k) → (∀ e, e < fo → sr e = sr0 e ∧ tg e = tg0 e ∧ ct e = ct0 e ∧ rw e = rw0 e) → (∀ o, o < oc → sr (fo + o) = nI (chn (laN G) (nxC drv ol) (fbC B ol) (ond o) 6).1 ∧ tg (fo + o) = -1 ∧ ct (fo + o) = nI (chn (laN G) (nxC drv ol) (fbC B ol) (ond o) 6).2.1 ∧ rw (fo + o) = lN (chn (laN G) (nxC drv ol) (fbC B ol) (ond o) 6).2.2) → Q none w1 (87, 0, 0)) :
    ∀ (m i : Nat) (w1 : cx_W) (sr tg ct : Nat → Int32) (rw : Nat → Int64), i + m = oc → w1 30 = oCn (nI fo) (nI (fo + i)) → w1 31 = ai 196 sr → w1 32 = ai 196 tg → w1 33 = ai 196 ct → w1 34 = al 196 rw → (∀ k, k < 30 ∨ 34 < k → w1 k = w k) → (∀ e, e < fo → sr e = sr0 e ∧ tg e = tg0 e ∧ ct e = ct0 e ∧ rw e = rw0 e) → (∀ o, o < i → sr (fo + o) = nI (chn (laN G) (nxC drv ol) (fbC B ol) (ond o) 6).1 ∧ tg (fo + o) = -1 ∧ ct (fo + o) = nI (chn (laN G) (nxC drv ol) (fbC B ol) (ond o) 6).2.1 ∧ rw (fo + o) = lN (chn (laN G) (nxC drv ol) (fbC B ol) (ond o) 6).2.2) →
    cx_OK none mCn_connect 10 0 0 Q 47 [some (.ref 30), some (.int (nI i))] [] w1 (87, 0, 0) := by
  have hW' := hW
  obtain ⟨⟨g1, g2, g3, g4⟩, hn, h5, ⟨h6, h7, h8, h9, h10⟩, hlc, hoc, hB, hD, hO⟩ := hW
  intro m
  induction m with
  | zero =>
    intro i w1 sr tg ct rw hi h30 h31 h32 h33 h34 hk he hA
    have e : i = oc := by omega
    subst e
    have E := leT (a := i) (b := i) (by omega) (by omega)
    have k6 := (hk 6 (by decide)).trans h6
    refine cx_run 100 mCn_connect_mo ?_
    simp (decide := true) only [BmCn_connect, BSC, h30, k6, E, EV, EW, CT, ev_o, ev_is, ev_gd, List.length_cons, List.length_nil, Nat.reduceLT, Nat.reduceAdd, Nat.reduceEqDiff, Nat.reduceLeDiff, Int32.reduceLT, Int32.reduceLE, reduceIte, true_and, and_true, true_or, or_true, not_true_eq_false, not_false_eq_true, false_imp_iff, true_imp_iff, implies_true]
    exact hQ w1 sr tg ct rw h30 h31 h32 h33 h34 hk he hA
  | succ m ih =>
    intro i w1 sr tg ct rw hi h30 h31 h32 h33 h34 hk he hA
    have E := leF (a := oc) (b := i) (by omega) (by omega)
    have k6 := (hk 6 (by decide)).trans h6
    have k7 := (hk 7 (by decide)).trans h7
    have k10 := (hk 10 (by decide)).trans h10
    have ⟨o1, o2, o3⟩ := hO i (by omega)
    have v1 : vp_in (nI i) 4 := nI_in (by omega) (by decide)
    have hW1 := hW'.of (w1 := w1) fun k q => hk k (by omega)
    obtain ⟨c1, _, c3, c4, _⟩ := hW1
    refine cx_run 100 mCn_connect_mo ?_
    simp (decide := true) only [BmCn_connect, BSC, h30, k6, k7, k10, E, v1, o1, o2, nI_clamp (n := i) (by omega), EV, EW, CT, ev_o, ev_is, ev_gd, List.length_cons, List.length_nil, Nat.reduceLT, Nat.reduceAdd, Nat.reduceEqDiff, Nat.reduceLeDiff, Int32.reduceLT, Int32.reduceLE, reduceIte, true_and, and_true, true_or, or_true, not_true_eq_false, not_false_eq_true, false_imp_iff, true_imp_iff, implies_true]
    refine cx_cs1 8 0 0 (by decide) (c_Cn_add (dd := 7) (drv := drv) (ol := ol) (B := B) c1 hn c3 c4 hlc hB hD h30 h31 h32 h33 h34 o3 (by omega)) fun r w2 h2 => ?_
    obtain ⟨rfl, a30, a31, a32, a33, a34, ak⟩ := h2
    simp (decide := true) only [BmCn_connect, nI_1, EV, EW, CT, ev_o, ev_is, ev_gd, List.length_cons, List.length_nil, Nat.reduceLT, Nat.reduceAdd, Nat.reduceEqDiff, Nat.reduceLeDiff, Int32.reduceLT, Int32.reduceLE, reduceIte, true_and, and_true, true_or, or_true, not_true_eq_false, not_false_eq_true, false_imp_iff, true_imp_iff, implies_true]
    refine ih (i + 1) w2 _ _ _ _ (by omega) a30 a31 a32 a33 a34 (fun k q => (ak k q).trans (hk k q)) (fun e z => ?_) (fun j hj => ?_)
    · have ⟨b1, b2, b3, b4⟩ := he e z
      rw [pk_un (by omega), pk_un (by omega), pk_un (by omega), pk_uLn (by omega)]
      exact ⟨b1, b2, b3, b4⟩
    · by_cases e : j = i
      · subst e; rw [pk_us, pk_us, pk_us, pk_uLs]; exact ⟨rfl, rfl, rfl, rfl⟩
      · rw [pk_un (by omega), pk_un (by omega), pk_un (by omega), pk_uLn (by omega)]
        exact hA j (by omega)
set_option maxHeartbeats 8000000 in
theorem cn_loop {w : cx_W} {G : Gr} {nc ic lc oc B : Nat} {pb x0 : Int32} {nn nl dv on od ch cp pn gs : Nat → Int32} {drv ol ond : Nat → Nat} {gt : Nat → Prop} {pins : Nat → List Nat} (hW : ConC w G nc ic lc oc B pb nn nl dv on od drv ol ond) (h20 : w 20 = oCo (nI (rt_cnt gt G.1))) (h13 : ∃ x, w 13 = oLi x) (h17 : w 17 = ai 8 pn) (h24 : w 24 = ai 48 ch) (h25 : w 25 = ai 192 cp) (h29 : w 29 = ai 48 gs) (hgs : GtR gs gt G.1) (hgd : ∀ g, gt g → g < G.1 ∧ GdC G ch cp pn pins g) :
    ∀ (m : Nat) (w1 : cx_W) (sr tg ct fg : Nat → Int32) (rw : Nat → Int64) (size : Nat) (F : Nat → Nat), m ≤ rt_cnt gt G.1 → w1 30 = oCn x0 (nI size) → w1 31 = ai 196 sr → w1 32 = ai 196 tg → w1 33 = ai 196 ct → w1 34 = al 196 rw → w1 35 = ai 48 fg → (∀ k, k < 30 ∨ 35 < k → w1 k = w k) → size + 4 * m ≤ 192 → CnF gt pins F size m → CnR (fun x => chn (laN G) (nxC drv ol) (fbC B ol) x 6) gt pins F m sr tg ct rw fg →
    cx_OK none mCn_connect 10 0 0 (fun r w2 _ => r = none ∧ (∃ F fo, CnW w2 (fun x => chn (laN G) (nxC drv ol) (fbC B ol) x 6) gt pins F fo oc ond) ∧ ∀ k, k < 30 ∨ 35 < k → w2 k = w k) 15 [some (.ref 30), some (.int (nI m - 1))] [] w1 (87, 0, 0) := by
  have hW' := hW
  obtain ⟨x13, h13⟩ := h13
  obtain ⟨⟨g1, g2, g3, g4⟩, hn, h5, ⟨h6, h7, h8, h9, h10⟩, hlc, hoc, hB, hD, hO⟩ := hW
  have hcn := rt_cnt_le gt G.1
  intro m
  induction m with
  | zero =>
    intro w1 sr tg ct fg rw size F hm h30 h31 h32 h33 h34 h35 hk hs hF hR
    refine cx_run 100 mCn_connect_mo ?_
    simp (decide := true) only [BmCn_connect, h30, nI_0, EV, EW, CT, ev_o, ev_is, ev_gd, List.length_cons, List.length_nil, Nat.reduceLT, Nat.reduceAdd, Nat.reduceEqDiff, Nat.reduceLeDiff, Int32.reduceLT, Int32.reduceLE, reduceIte, true_and, and_true, true_or, or_true, not_true_eq_false, not_false_eq_true, false_imp_iff, true_imp_iff, implies_true]
    refine cn_out (w := cx_up w1 30 (oCn (nI size) (nI size))) (fo := size) (sr0 := sr) (tg0 := tg) (ct0 := ct) (rw0 := rw) (hW'.of fun k q => by rw [← hk k (by omega)]; simp (disch := omega) only [cx_up, if_neg]) (by omega) (fun w2 sr2 tg2 ct2 rw2 a30 a31 a32 a33 a34 ak ae ao => ?_) oc 0 _ sr tg ct rw (by omega) (by simp only [cx_up, Nat.reduceEqDiff, reduceIte]; rfl) (by simp only [cx_up, Nat.reduceEqDiff, reduceIte]; exact h31) (by simp only [cx_up, Nat.reduceEqDiff, reduceIte]; exact h32) (by simp only [cx_up, Nat.reduceEqDiff, reduceIte]; exact h33) (by simp only [cx_up, Nat.reduceEqDiff, reduceIte]; exact h34) (fun _ _ => rfl) (fun _ _ => ⟨rfl, rfl, rfl, rfl⟩) (fun j h => by omega)
    have f : ∀ k, k < 30 ∨ 34 < k → w2 k = w1 k := fun k q => (ak k q).trans (by simp (disch := omega) only [cx_up, if_neg])
    refine ⟨rfl, ⟨F, size, a30, by omega, hF, sr2, tg2, ct2, rw2, fg, a31, a32, a33, a34, (f 35 (by omega)).trans h35, fun g hg hl => ⟨(hR g hg hl).1, fun i hi => ?_⟩, ao⟩, fun k q => (f k (by omega)).trans (hk k q)⟩
    have h1 := (hR g hg hl).2 i hi
    have h2 := hF.1 g hg hl
    have ⟨b1, b2, b3, b4⟩ := ae (F g + i) (by omega)
    rw [b1, b2, b3, b4]
    exact h1
  | succ m ih =>
    intro w1 sr tg ct fg rw size F hm h30 h31 h32 h33 h34 h35 hk hs hF hR
    obtain ⟨g, hgn, hg, hr⟩ := rt_cnt_ex (show m < rt_cnt gt G.1 by omega)
    have egs := hgs g hgn hg
    rw [hr] at egs
    have k20 := (hk 20 (by decide)).trans h20
    have k29 := (hk 29 (by decide)).trans h29
    have v1 : vp_in (nI m) 48 := nI_in (by omega) (by decide)
    have hlt : ¬ nI m < 0 := nI_pos (by omega)
    have ⟨_, c, c1, c2, c3, c4, c5, c6⟩ := hgd g hg
    have hW1 := hW'.of (w1 := w1) fun k q => hk k (by omega)
    obtain ⟨d1, _, d3, d4, _⟩ := hW1
    refine cx_run 100 mCn_connect_mo ?_
    rw [nI_pred]
    simp (decide := true) only [BmCn_connect, BSC, h30, k20, k29, v1, hlt, egs, nI_clamp (n := m) (by omega), EV, EW, CT, ev_o, ev_is, ev_gd, List.length_cons, List.length_nil, Nat.reduceLT, Nat.reduceAdd, Nat.reduceEqDiff, Nat.reduceLeDiff, Int32.reduceLT, Int32.reduceLE, reduceIte, true_and, and_true, true_or, or_true, not_true_eq_false, not_false_eq_true, false_imp_iff, true_imp_iff, implies_true]
    refine cx_cs1 9 0 0 (by decide) (c_Cn_connectGate (l := pins g) (drv := drv) (ol := ol) (B := B) d1 hn d3 d4 hlc hB hD ⟨_, k20⟩ ⟨x13, (hk 13 (by decide)).trans h13⟩ ((hk 17 (by decide)).trans h17) ((hk 24 (by decide)).trans h24) ((hk 25 (by decide)).trans h25) h30 h31 h32 h33 h34 h35 (by omega) c1 c2 c3 c4 c5 c6 (by omega)) fun r w2 h2 => ?_
    obtain ⟨rfl, a30, a35, ⟨sr2, tg2, ct2, rw2, a31, a32, a33, a34, ae, aA⟩, ak⟩ := h2
    simp (decide := true) only [BmCn_connect, EV, EW, CT, ev_o, ev_is, ev_gd, List.length_cons, List.length_nil, Nat.reduceLT, Nat.reduceAdd, Nat.reduceEqDiff, Nat.reduceLeDiff, Int32.reduceLT, Int32.reduceLE, reduceIte, true_and, and_true, true_or, or_true, not_true_eq_false, not_false_eq_true, false_imp_iff, true_imp_iff, implies_true]
    have rank : ∀ g', gt g' → m ≤ rt_cnt gt g' → ¬ g' = g → m + 1 ≤ rt_cnt gt g' := fun g' h1 h2 h3 => by
      by_cases e : rt_cnt gt g' = m
      · exact absurd (rt_cnt_inj h1 hg (by omega)) h3
      · omega
    have nx := ih w2 sr2 tg2 ct2 (upd fg g (nI size)) rw2 (size + (pins g).length) (fun x => if x = g then size else F x) (by omega) a30 a31 a32 a33 a34 a35 (fun k q => (ak k q).trans (hk k q)) (by omega) ⟨fun g' h1 h2 => ?_, fun e he => ?_, fun x y hx hy lx ly ne => ?_⟩ (fun g' h1 h2 => ?_)
    · rw [Int32.sub_eq_add_neg] at nx
      exact nx
    · by_cases e : g' = g
      · simp only [e, if_true]; omega
      · simp only [e, if_false]
        have := hF.1 g' h1 (rank g' h1 h2 e); omega
    · by_cases e2 : e < size
      · have ⟨g', p, q1, q2, q3, q4⟩ := hF.2.1 e e2
        have ne : ¬ g' = g := fun z => by rw [z, hr] at q2; omega
        exact ⟨g', p, q1, by omega, q3, by simp only [ne, if_false]; exact q4⟩
      · exact ⟨g, e - size, hg, by omega, by omega, by simp only [if_true]; omega⟩
    · by_cases ex : x = g
      · have ey : ¬ y = g := fun z => ne (ex.trans z.symm)
        simp only [ex, ey, if_true, if_false]
        exact .inr (hF.1 y hy (rank y hy ly ey))
      · by_cases ey : y = g
        · simp only [ex, ey, if_true, if_false]
          exact .inl (hF.1 x hx (rank x hx lx ex))
        · simp only [ex, ey, if_false]
          exact hF.2.2 x y hx hy (rank x hx lx ex) (rank y hy ly ey) ne
    · by_cases e : g' = g
      · subst e
        simp only [if_true]
        exact ⟨pk_us, aA⟩
      · simp only [e, if_false]
        have hl := rank g' h1 h2 e
        refine ⟨by rw [pk_un e]; exact (hR g' h1 hl).1, fun i hi => ?_⟩
        have := hF.1 g' h1 hl
        have ⟨b1, b2, b3, b4⟩ := ae (F g' + i) (by omega)
        rw [b1, b2, b3, b4]
        exact (hR g' h1 hl).2 i hi
set_option maxHeartbeats 8000000 in
theorem c_Cn_connect {w : cx_W} {G : Gr} {nc ic lc oc B : Nat} {pb x0 x1 : Int32} {nn nl dv on od ch cp pn gs sr tg ct fg : Nat → Int32} {rw : Nat → Int64} {drv ol ond : Nat → Nat} {gt : Nat → Prop} {pins : Nat → List Nat} (hW : ConC w G nc ic lc oc B pb nn nl dv on od drv ol ond) (h20 : w 20 = oCo (nI (rt_cnt gt G.1))) (h13 : ∃ x, w 13 = oLi x) (h17 : w 17 = ai 8 pn) (h24 : w 24 = ai 48 ch) (h25 : w 25 = ai 192 cp) (h29 : w 29 = ai 48 gs) (hgs : GtR gs gt G.1) (hgd : ∀ g, gt g → g < G.1 ∧ GdC G ch cp pn pins g)
    (h30 : w 30 = oCn x0 x1) (h31 : w 31 = ai 196 sr) (h32 : w 32 = ai 196 tg) (h33 : w 33 = ai 196 ct) (h34 : w 34 = al 196 rw) (h35 : w 35 = ai 48 fg) :
    cx_MC mCn_connect 10 0 0 [.ref 30] w 87 (fun r w2 => r = none ∧ (∃ F fo, CnW w2 (fun x => chn (laN G) (nxC drv ol) (fbC B ol) x 6) gt pins F fo oc ond) ∧ ∀ k, k < 30 ∨ 35 < k → w2 k = w k) := by
  have hcn := rt_cnt_le gt G.1
  have hn := hW.2.1
  refine cx_met 60 mCn_connect_ok rfl ?_
  show cx_vc 60 none mCn_connect 10 0 0 _ _ 0 [some (.ref 30), none] [] w (87, 0, 0)
  simp (decide := true) only [BmCn_connect, BSC, h30, h20, EV, EW, CT, ev_o, ev_is, ev_gd, List.length_cons, List.length_nil, Nat.reduceLT, Nat.reduceAdd, Nat.reduceEqDiff, Nat.reduceLeDiff, Int32.reduceLT, Int32.reduceLE, reduceIte, true_and, and_true, true_or, or_true, not_true_eq_false, not_false_eq_true, false_imp_iff, true_imp_iff, implies_true]
  refine cx_OK_mono (fun r w2 u q => q) (cn_loop (w := w) (x0 := x0) hW h20 h13 h17 h24 h25 h29 hgs hgd (rt_cnt gt G.1) _ sr tg ct fg rw 0 (fun _ => 0) (Nat.le_refl _) (by simp only [cx_up, Nat.reduceEqDiff, reduceIte]; rfl) (by simp only [cx_up, Nat.reduceEqDiff, reduceIte]; exact h31) (by simp only [cx_up, Nat.reduceEqDiff, reduceIte]; exact h32) (by simp only [cx_up, Nat.reduceEqDiff, reduceIte]; exact h33) (by simp only [cx_up, Nat.reduceEqDiff, reduceIte]; exact h34) (by simp only [cx_up, Nat.reduceEqDiff, reduceIte]; exact h35) (fun k q => by simp (disch := omega) only [cx_up, if_neg]) (by omega) ⟨fun g h1 h2 => ?_, fun e h => by omega, fun x y hx hy lx => ?_⟩ (fun g h1 h2 => ?_))
  · have := rt_cnt_up h1 (hgd g h1).1; omega
  · have := rt_cnt_up hx (hgd x hx).1; omega
  · have := rt_cnt_up h1 (hgd g h1).1; omega
