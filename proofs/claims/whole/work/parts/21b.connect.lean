/-! Connections: the given side. Own work. -/
/-- how nodes lead back through latches, on the given side -/
def nxC (drv ol : Nat → Nat) (m : Nat) : Nat := drv (ol m)
def fbC (B : Nat) (ol : Nat → Nat) (m : Nat) : Nat := B / 2 ^ ol m % 2
theorem chn_lt {G : Gr} {lc : Nat} {nn dv od : Nat → Int32} {drv ol : Nat → Nat} {B m : Nat} (hD : DrvC G lc nn dv od drv ol) (hm : m < G.1) : ∀ k, (chn (laN G) (nxC drv ol) (fbC B ol) m k).1 < G.1
  | 0 => hm
  | k + 1 => by
    have ih := chn_lt hD hm (B := B) k
    cases e : laN G (chn (laN G) (nxC drv ol) (fbC B ol) m k).1
    · rw [chn_f e]; exact ih
    · rw [chn_t e]; exact (hD.1 _ (hD.2 _ ih e).2).2.2
set_option maxHeartbeats 8000000 in
theorem add_loop {w : cx_W} {G : Gr} {nc ic lc oc B m sz : Nat} {pb tg0 fo : Int32} {nn nl dv on od sr tg ct : Nat → Int32} {rw0 : Nat → Int64} {drv ol : Nat → Nat} {dd : Nat} (hG : GW w G) (hn : G.1 ≤ 48) (h5 : w 5 = ai 48 od) (hC : CW w nc ic lc oc (nI B) pb nn nl dv on) (hlc : lc ≤ 6) (hB : B < 2 ^ 31) (hD : DrvC G lc nn dv od drv ol) (h30 : w 30 = oCn fo (nI sz)) (h31 : w 31 = ai 196 sr) (h32 : w 32 = ai 196 tg) (h33 : w 33 = ai 196 ct) (h34 : w 34 = al 196 rw0) (hm : m < G.1) (hsz : sz < 196) :
    ∀ (r k : Nat) (l7 : Option Value), k + r = 6 → (∀ j, j < k → laN G (chn (laN G) (nxC drv ol) (fbC B ol) m j).1 = true) →
    cx_OK none mCn_add (dd + 1) 0 0 (fun r w2 _ => r = none ∧ w2 30 = oCn fo (nI (sz + 1)) ∧ w2 31 = ai 196 (upd sr sz (nI (chn (laN G) (nxC drv ol) (fbC B ol) m 6).1)) ∧ w2 32 = ai 196 (upd tg sz tg0) ∧ w2 33 = ai 196 (upd ct sz (nI (chn (laN G) (nxC drv ol) (fbC B ol) m 6).2.1)) ∧ w2 34 = al 196 (vp_updL rw0 sz (lN (chn (laN G) (nxC drv ol) (fbC B ol) m 6).2.2)) ∧ ∀ k, k < 30 ∨ 34 < k → w2 k = w k)
      8 [some (.ref 30), some (.int (nI m)), some (.int tg0), some (.int (nI (chn (laN G) (nxC drv ol) (fbC B ol) m k).1)), some (.int (nI k)), some (.long (lN (chn (laN G) (nxC drv ol) (fbC B ol) m k).2.2)), none, l7] [] w (87, 0, 0) := by
  obtain ⟨g1, g2, g3, g4⟩ := hG
  obtain ⟨h6, h7, h8, h9, h10⟩ := hC
  have vz : vp_in (nI sz) 196 := nI_in hsz (by decide)
  have fin : ∀ k, k ≤ 6 → (∀ j, j < k → laN G (chn (laN G) (nxC drv ol) (fbC B ol) m j).1 = true) → (k = 6 ∨ laN G (chn (laN G) (nxC drv ol) (fbC B ol) m k).1 = false) → chn (laN G) (nxC drv ol) (fbC B ol) m 6 = chn (laN G) (nxC drv ol) (fbC B ol) m k ∧ (chn (laN G) (nxC drv ol) (fbC B ol) m k).2.1 = k := by
    intro k hk hj h
    refine ⟨?_, chn_cnt k hj⟩
    rcases h with e | e
    · rw [e]
    · have := chn_more e (6 - k)
      rwa [show k + (6 - k) = 6 by omega] at this
  intro r
  induction r with
  | zero =>
    intro k l7 hk hj
    have e : k = 6 := by omega
    subst e
    have ⟨f1, f2⟩ := fin 6 (by omega) hj (.inl rfl)
    have E : ((6 : Int32) ≤ nI 6) = True := eq_true (by decide)
    refine cx_run 100 mCn_add_mo ?_
    simp (decide := true) only [BmCn_add, h30, h31, h32, h33, h34, E, vz, nI_clamp (n := sz) (by omega), nI_1, f2, EV, EW, CT, ev_o, ev_is, ev_gd, List.length_cons, List.length_nil, Nat.reduceLT, Nat.reduceAdd, Nat.reduceEqDiff, Nat.reduceLeDiff, Int32.reduceLT, Int32.reduceLE, reduceIte, true_and, and_true, true_or, or_true, not_true_eq_false, not_false_eq_true, false_imp_iff, true_imp_iff, implies_true]
    exact fun k q => by simp (disch := omega) only [if_neg]
  | succ r ih =>
    intro k l7 hk hj
    have hlt := chn_lt (B := B) hD hm k
    have v1 : vp_in (nI (chn (laN G) (nxC drv ol) (fbC B ol) m k).1) 48 := nI_in (by omega) (by decide)
    have E : ((6 : Int32) ≤ nI k) = False := (lek (a := k) (c := 6) (x := 6) rfl (by omega) (by decide)).trans (eq_false (by omega))
    refine cx_run 100 mCn_add_mo ?_
    cases q : laN G (chn (laN G) (nxC drv ol) (fbC B ol) m k).1
    · have ⟨f1, f2⟩ := fin k (by omega) hj (.inr q)
      have q1 := laN_f q
      rw [f1, f2]
      simp (decide := true) only [BmCn_add, BSC, g1, g2, h30, h31, h32, h33, h34, E, v1, vz, q1, nI_clamp (n := sz) (by omega), nI_clamp (n := (chn (laN G) (nxC drv ol) (fbC B ol) m k).1) (by omega), nI_1, EV, EW, CT, ev_o, ev_is, ev_gd, List.length_cons, List.length_nil, Nat.reduceLT, Nat.reduceAdd, Nat.reduceEqDiff, Nat.reduceLeDiff, Int32.reduceLT, Int32.reduceLE, reduceIte, true_and, and_true, true_or, or_true, not_true_eq_false, not_false_eq_true, false_imp_iff, true_imp_iff, implies_true]
      exact fun k q => by simp (disch := omega) only [if_neg]
    · have q1 := laN_t q
      have ⟨o1, o2⟩ := hD.2 _ hlt q
      have ⟨o3, o4, o5⟩ := hD.1 _ o2
      have v2 : vp_in (nI (ol (chn (laN G) (nxC drv ol) (fbC B ol) m k).1)) 6 := nI_in (by omega) (by decide)
      have eb := bitN (a := B) (k := ol (chn (laN G) (nxC drv ol) (fbC B ol) m k).1) hB (by omega)
      have el := l_push (a := (chn (laN G) (nxC drv ol) (fbC B ol) m k).2.2) (b := B / 2 ^ ol (chn (laN G) (nxC drv ol) (fbC B ol) m k).1 % 2) (by omega)
      have nx := ih (k + 1) (some (.int (nI (ol (chn (laN G) (nxC drv ol) (fbC B ol) m k).1)))) (by omega) (fun j hj2 => by
        by_cases e : j = k
        · rw [e]; exact q
        · exact hj j (by omega))
      rw [chn_t q] at nx
      simp (decide := true) only [BmCn_add, BSC, g1, g2, h5, h6, h7, h9, h30, E, v1, v2, q1, o1, o3, o4, eb, el, nI_clamp (n := (chn (laN G) (nxC drv ol) (fbC B ol) m k).1) (by omega), nI_clamp (n := ol (chn (laN G) (nxC drv ol) (fbC B ol) m k).1) (by omega), nI_1, EV, EW, CT, ev_o, ev_is, ev_gd, List.length_cons, List.length_nil, Nat.reduceLT, Nat.reduceAdd, Nat.reduceEqDiff, Nat.reduceLeDiff, Int32.reduceLT, Int32.reduceLE, reduceIte, true_and, and_true, true_or, or_true, not_true_eq_false, not_false_eq_true, false_imp_iff, true_imp_iff, implies_true]
      exact nx
set_option maxHeartbeats 4000000 in
theorem c_Cn_add {w : cx_W} {G : Gr} {nc ic lc oc B m sz : Nat} {pb tg0 fo : Int32} {nn nl dv on od sr tg ct : Nat → Int32} {rw0 : Nat → Int64} {drv ol : Nat → Nat} {dd : Nat} (hG : GW w G) (hn : G.1 ≤ 48) (h5 : w 5 = ai 48 od) (hC : CW w nc ic lc oc (nI B) pb nn nl dv on) (hlc : lc ≤ 6) (hB : B < 2 ^ 31) (hD : DrvC G lc nn dv od drv ol) (h30 : w 30 = oCn fo (nI sz)) (h31 : w 31 = ai 196 sr) (h32 : w 32 = ai 196 tg) (h33 : w 33 = ai 196 ct) (h34 : w 34 = al 196 rw0) (hm : m < G.1) (hsz : sz < 196) :
    cx_MC mCn_add (dd + 1) 0 0 [.ref 30, .int (nI m), .int tg0] w 87 (fun r w2 => r = none ∧ w2 30 = oCn fo (nI (sz + 1)) ∧ w2 31 = ai 196 (upd sr sz (nI (chn (laN G) (nxC drv ol) (fbC B ol) m 6).1)) ∧ w2 32 = ai 196 (upd tg sz tg0) ∧ w2 33 = ai 196 (upd ct sz (nI (chn (laN G) (nxC drv ol) (fbC B ol) m 6).2.1)) ∧ w2 34 = al 196 (vp_updL rw0 sz (lN (chn (laN G) (nxC drv ol) (fbC B ol) m 6).2.2)) ∧ ∀ k, k < 30 ∨ 34 < k → w2 k = w k) := by
  refine cx_met 60 mCn_add_ok rfl ?_
  show cx_vc 60 none mCn_add (dd + 1) 0 0 _ _ 0 [some (.ref 30), some (.int (nI m)), some (.int tg0), none, none, none, none, none] [] w (87, 0, 0)
  simp only [BmCn_add, EV, EW, CT, ev_o, ev_is, ev_gd, List.length_cons, List.length_nil, Nat.reduceLT, Nat.reduceAdd, Nat.reduceEqDiff, Nat.reduceLeDiff, Int32.reduceLT, Int32.reduceLE, reduceIte, true_and, and_true, true_or, or_true, not_true_eq_false, not_false_eq_true, false_imp_iff, true_imp_iff, implies_true]
  exact add_loop hG hn h5 hC hlc hB hD h30 h31 h32 h33 h34 hm hsz 6 0 none (by omega) (fun j h => by omega)
/-- pin i of a list that has the last pin first -/
def pinI (l : List Nat) (i : Nat) : Nat := (l.drop (l.length - (i + 1))).headD 0
theorem Stk.pin {row : Nat → Int32} {l : List Nat} {i : Nat} (h : Stk row l) (hi : i < l.length) : row i = nI (pinI l i) ∧ pinI l i ∈ l := by
  have ⟨x, h1, h2, h3⟩ := h.at hi
  unfold pinI
  rw [h3]
  exact ⟨h2, h1⟩
/-- the connections f, f + 1 .. lead from the first pins of l to t -/
def CnA (ch : Nat → Nat × Nat × Nat) (sr tg ct : Nat → Int32) (rw : Nat → Int64) (f : Nat) (t : Int32) (l : List Nat) (n : Nat) : Prop :=
  ∀ i, i < n → sr (f + i) = nI (ch (pinI l i)).1 ∧ tg (f + i) = t ∧ ct (f + i) = nI (ch (pinI l i)).2.1 ∧ rw (f + i) = lN (ch (pinI l i)).2.2
set_option maxHeartbeats 8000000 in
theorem cg_loop {w : cx_W} {G : Gr} {nc ic lc oc B f g c : Nat} {pb fo : Int32} {nn nl dv on od ch cp pn sr0 tg0 ct0 : Nat → Int32} {rw0 : Nat → Int64} {l : List Nat} {drv ol : Nat → Nat} (hG : GW w G) (hn : G.1 ≤ 48) (h5 : w 5 = ai 48 od) (hC : CW w nc ic lc oc (nI B) pb nn nl dv on) (hlc : lc ≤ 6) (hB : B < 2 ^ 31) (hD : DrvC G lc nn dv od drv ol) (h20 : ∃ x, w 20 = oCo x) (h13 : ∃ x, w 13 = oLi x) (h17 : w 17 = ai 8 pn) (h24 : w 24 = ai 48 ch) (h25 : w 25 = ai 192 cp) (hg : g < 48) (hc : c < 8) (hch : ch g = nI c) (hpn : pn c = nI l.length) (hl4 : l.length ≤ 4) (hlp : Stk (fun i => cp (4 * g + i)) l) (hlG : ∀ x, x ∈ l → x < G.1) (hf : f + l.length ≤ 196) :
    ∀ (m i : Nat) (w1 : cx_W) (sr tg ct : Nat → Int32) (rw : Nat → Int64), i + m = l.length → w1 30 = oCn fo (nI (f + i)) → w1 31 = ai 196 sr → w1 32 = ai 196 tg → w1 33 = ai 196 ct → w1 34 = al 196 rw → (∀ k, k < 30 ∨ 34 < k → w1 k = w k) → (∀ e, e < f → sr e = sr0 e ∧ tg e = tg0 e ∧ ct e = ct0 e ∧ rw e = rw0 e) → CnA (fun x => chn (laN G) (nxC drv ol) (fbC B ol) x 6) sr tg ct rw f (nI g) l i →
    cx_OK none mCn_connectGate 9 0 0 (fun r w2 _ => r = none ∧ w2 30 = oCn fo (nI (f + l.length)) ∧ (∃ sr tg ct rw, w2 31 = ai 196 sr ∧ w2 32 = ai 196 tg ∧ w2 33 = ai 196 ct ∧ w2 34 = al 196 rw ∧ (∀ e, e < f → sr e = sr0 e ∧ tg e = tg0 e ∧ ct e = ct0 e ∧ rw e = rw0 e) ∧ CnA (fun x => chn (laN G) (nxC drv ol) (fbC B ol) x 6) sr tg ct rw f (nI g) l l.length) ∧ ∀ k, k < 30 ∨ 34 < k → w2 k = w k)
      12 [some (.ref 30), some (.int (nI g)), some (.int (nI i))] [] w1 (87, 0, 0) := by
  obtain ⟨x20, h20⟩ := h20
  obtain ⟨x13, h13⟩ := h13
  have hG' := hG
  have hC' := hC
  obtain ⟨g1, g2, g3, g4⟩ := hG
  obtain ⟨h6, h7, h8, h9, h10⟩ := hC
  have vg : vp_in (nI g) 48 := nI_in hg (by decide)
  have vc : vp_in (nI c) 8 := nI_in hc (by decide)
  intro m
  induction m with
  | zero =>
    intro i w1 sr tg ct rw hi h30 h31 h32 h33 h34 hk he hA
    have e : i = l.length := by omega
    subst e
    have E := leT (a := l.length) (b := l.length) (by omega) (by omega)
    have k20 := (hk 20 (by decide)).trans h20
    have k13 := (hk 13 (by decide)).trans h13
    have k17 := (hk 17 (by decide)).trans h17
    have k24 := (hk 24 (by decide)).trans h24
    refine cx_run 100 mCn_connectGate_mo ?_
    simp (decide := true) only [BmCn_connectGate, BSC, h30, k20, k13, k17, k24, vg, vc, hch, hpn, nI_clamp (n := g) (by omega), nI_clamp (n := c) (by omega), E, EV, EW, CT, ev_o, ev_is, ev_gd, List.length_cons, List.length_nil, Nat.reduceLT, Nat.reduceAdd, Nat.reduceEqDiff, Nat.reduceLeDiff, Int32.reduceLT, Int32.reduceLE, reduceIte, true_and, and_true, true_or, or_true, not_true_eq_false, not_false_eq_true, false_imp_iff, true_imp_iff, implies_true]
    exact ⟨⟨sr, tg, ct, rw, h31, h32, h33, h34, he, hA⟩, hk⟩
  | succ m ih =>
    intro i w1 sr tg ct rw hi h30 h31 h32 h33 h34 hk he hA
    have E := leF (a := l.length) (b := i) (by omega) (by omega)
    have k20 := (hk 20 (by decide)).trans h20
    have k13 := (hk 13 (by decide)).trans h13
    have k17 := (hk 17 (by decide)).trans h17
    have k24 := (hk 24 (by decide)).trans h24
    have k25 := (hk 25 (by decide)).trans h25
    have ⟨n2, n1⟩ := hlp.pin (show i < l.length by omega)
    have n2 : cp (4 * g + i) = nI (pinI l i) := n2
    have e4 : nI g * 4 + nI i = nI (4 * g + i) := by rw [show nI g * 4 = nI (g * 4) from pk_mul g 4, nI_add, Nat.mul_comm]
    have v4 : vp_in (nI (4 * g + i)) 192 := nI_in (by omega) (by decide)
    refine cx_run 100 mCn_connectGate_mo ?_
    simp (decide := true) only [BmCn_connectGate, BSC, h30, k20, k13, k17, k24, k25, vg, vc, v4, e4, n2, hch, hpn, nI_clamp (n := g) (by omega), nI_clamp (n := c) (by omega), nI_clamp (n := 4 * g + i) (by omega), E, EV, EW, CT, ev_o, ev_is, ev_gd, List.length_cons, List.length_nil, Nat.reduceLT, Nat.reduceAdd, Nat.reduceEqDiff, Nat.reduceLeDiff, Int32.reduceLT, Int32.reduceLE, reduceIte, true_and, and_true, true_or, or_true, not_true_eq_false, not_false_eq_true, false_imp_iff, true_imp_iff, implies_true]
    refine cx_cs1 8 0 0 (by decide) (c_Cn_add (dd := 7) (drv := drv) (ol := ol) (B := B) ⟨(hk 1 (by decide)).trans g1, (hk 2 (by decide)).trans g2, (hk 3 (by decide)).trans g3, (hk 4 (by decide)).trans g4⟩ hn ((hk 5 (by decide)).trans h5) ⟨(hk 6 (by decide)).trans h6, (hk 7 (by decide)).trans h7, (hk 8 (by decide)).trans h8, (hk 9 (by decide)).trans h9, (hk 10 (by decide)).trans h10⟩ hlc hB hD h30 h31 h32 h33 h34 (hlG _ n1) (by omega)) fun r w2 h2 => ?_
    obtain ⟨rfl, a30, a31, a32, a33, a34, ak⟩ := h2
    simp (decide := true) only [BmCn_connectGate, nI_1, EV, EW, CT, ev_o, ev_is, ev_gd, List.length_cons, List.length_nil, Nat.reduceLT, Nat.reduceAdd, Nat.reduceEqDiff, Nat.reduceLeDiff, Int32.reduceLT, Int32.reduceLE, reduceIte, true_and, and_true, true_or, or_true, not_true_eq_false, not_false_eq_true, false_imp_iff, true_imp_iff, implies_true]
    refine ih (i + 1) w2 _ _ _ _ (by omega) a30 a31 a32 a33 a34 (fun k q => (ak k q).trans (hk k q)) (fun e z => ?_) (fun j hj => ?_)
    · have ⟨b1, b2, b3, b4⟩ := he e z
      rw [pk_un (by omega), pk_un (by omega), pk_un (by omega), pk_uLn (by omega)]
      exact ⟨b1, b2, b3, b4⟩
    · by_cases e : j = i
      · subst e; rw [pk_us, pk_us, pk_us, pk_uLs]; exact ⟨rfl, rfl, rfl, rfl⟩
      · rw [pk_un (by omega), pk_un (by omega), pk_un (by omega), pk_uLn (by omega)]
        exact hA j (by omega)
set_option maxHeartbeats 8000000 in
theorem c_Cn_connectGate {w : cx_W} {G : Gr} {nc ic lc oc B f g c : Nat} {pb fo : Int32} {nn nl dv on od ch cp pn sr0 tg0 ct0 fg : Nat → Int32} {rw0 : Nat → Int64} {l : List Nat} {drv ol : Nat → Nat} (hG : GW w G) (hn : G.1 ≤ 48) (h5 : w 5 = ai 48 od) (hC : CW w nc ic lc oc (nI B) pb nn nl dv on) (hlc : lc ≤ 6) (hB : B < 2 ^ 31) (hD : DrvC G lc nn dv od drv ol) (h20 : ∃ x, w 20 = oCo x) (h13 : ∃ x, w 13 = oLi x) (h17 : w 17 = ai 8 pn) (h24 : w 24 = ai 48 ch) (h25 : w 25 = ai 192 cp) (h30 : w 30 = oCn fo (nI f)) (h31 : w 31 = ai 196 sr0) (h32 : w 32 = ai 196 tg0) (h33 : w 33 = ai 196 ct0) (h34 : w 34 = al 196 rw0) (h35 : w 35 = ai 48 fg) (hg : g < 48) (hc : c < 8) (hch : ch g = nI c) (hpn : pn c = nI l.length) (hl4 : l.length ≤ 4) (hlp : Stk (fun i => cp (4 * g + i)) l) (hlG : ∀ x, x ∈ l → x < G.1) (hf : f + l.length ≤ 196) :
    cx_MC mCn_connectGate 9 0 0 [.ref 30, .int (nI g)] w 87 (fun r w2 => r = none ∧ w2 30 = oCn fo (nI (f + l.length)) ∧ w2 35 = ai 48 (upd fg g (nI f)) ∧ (∃ sr tg ct rw, w2 31 = ai 196 sr ∧ w2 32 = ai 196 tg ∧ w2 33 = ai 196 ct ∧ w2 34 = al 196 rw ∧ (∀ e, e < f → sr e = sr0 e ∧ tg e = tg0 e ∧ ct e = ct0 e ∧ rw e = rw0 e) ∧ CnA (fun x => chn (laN G) (nxC drv ol) (fbC B ol) x 6) sr tg ct rw f (nI g) l l.length) ∧ ∀ k, k < 30 ∨ 35 < k → w2 k = w k) := by
  have vg : vp_in (nI g) 48 := nI_in hg (by decide)
  obtain ⟨x20, h20⟩ := h20
  obtain ⟨x13, h13⟩ := h13
  obtain ⟨g1, g2, g3, g4⟩ := hG
  obtain ⟨h6, h7, h8, h9, h10⟩ := hC
  refine cx_met 60 mCn_connectGate_ok rfl ?_
  show cx_vc 60 none mCn_connectGate 9 0 0 _ _ 0 [some (.ref 30), some (.int (nI g)), none] [] w (87, 0, 0)
  simp (decide := true) only [BmCn_connectGate, h30, h35, vg, nI_clamp (n := g) (by omega), EV, EW, CT, ev_o, ev_is, ev_gd, List.length_cons, List.length_nil, Nat.reduceLT, Nat.reduceAdd, Nat.reduceEqDiff, Nat.reduceLeDiff, Int32.reduceLT, Int32.reduceLE, reduceIte, true_and, and_true, true_or, or_true, not_true_eq_false, not_false_eq_true, false_imp_iff, true_imp_iff, implies_true]
  refine cx_OK_mono (fun r w2 u q => ⟨q.1, q.2.1, (q.2.2.2 35 (by omega)).trans (by simp only [cx_up, Nat.reduceEqDiff, reduceIte]), q.2.2.1, fun k z => (q.2.2.2 k (by omega)).trans (by simp (disch := omega) only [cx_up, if_neg])⟩)
    (cg_loop (w := cx_up w 35 (ai 48 (upd fg g (nI f)))) (f := f) (fo := fo) (sr0 := sr0) (tg0 := tg0) (ct0 := ct0) (rw0 := rw0) (drv := drv) (ol := ol) (B := B) (l := l) (nc := nc) (ic := ic) (lc := lc) (oc := oc) (pb := pb) (nn := nn) (nl := nl) (dv := dv) (on := on) (od := od) (ch := ch) (cp := cp) (pn := pn) (G := G) (c := c) ⟨by simp only [cx_up, Nat.reduceEqDiff, reduceIte]; exact g1, by simp only [cx_up, Nat.reduceEqDiff, reduceIte]; exact g2, by simp only [cx_up, Nat.reduceEqDiff, reduceIte]; exact g3, by simp only [cx_up, Nat.reduceEqDiff, reduceIte]; exact g4⟩ hn (by simp only [cx_up, Nat.reduceEqDiff, reduceIte]; exact h5) ⟨by simp only [cx_up, Nat.reduceEqDiff, reduceIte]; exact h6, by simp only [cx_up, Nat.reduceEqDiff, reduceIte]; exact h7, by simp only [cx_up, Nat.reduceEqDiff, reduceIte]; exact h8, by simp only [cx_up, Nat.reduceEqDiff, reduceIte]; exact h9, by simp only [cx_up, Nat.reduceEqDiff, reduceIte]; exact h10⟩ hlc hB hD ⟨x20, by simp only [cx_up, Nat.reduceEqDiff, reduceIte]; exact h20⟩ ⟨x13, by simp only [cx_up, Nat.reduceEqDiff, reduceIte]; exact h13⟩ (by simp only [cx_up, Nat.reduceEqDiff, reduceIte]; exact h17) (by simp only [cx_up, Nat.reduceEqDiff, reduceIte]; exact h24) (by simp only [cx_up, Nat.reduceEqDiff, reduceIte]; exact h25) hg hc hch hpn hl4 hlp hlG hf l.length 0 _ sr0 tg0 ct0 rw0 (by omega) (by simp only [cx_up, Nat.reduceEqDiff, reduceIte]; exact h30) (by simp only [cx_up, Nat.reduceEqDiff, reduceIte]; exact h31) (by simp only [cx_up, Nat.reduceEqDiff, reduceIte]; exact h32) (by simp only [cx_up, Nat.reduceEqDiff, reduceIte]; exact h33) (by simp only [cx_up, Nat.reduceEqDiff, reduceIte]; exact h34) (fun _ _ => rfl) (fun e _ => ⟨rfl, rfl, rfl, rfl⟩) (fun j h => by omega))
