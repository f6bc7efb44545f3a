/-! The cover of the reference: the whole. Printed by gen_21g.py. -/
/-- the choices in the reference's rows -/
def ChMA (H : Gr) (kd px py : Nat → Nat) (need : Nat → Bool) (p A : Nat → Nat) (cc : Nat) (cost : Nat → Nat) (cs ch sp : Nat → Int32) (i : Nat) : Prop :=
  ∀ m, m < i → lvF H.1 kd px py need m = true → (kd m = 2 ∨ kd m = 3) → ChM m cs ch sp (bestC kd px py (rtF H.1 kd px py need) p A cc cost 1000000 m)
def fr6 (k : Nat) : Prop := ¬ k = 45 ∧ ¬ k = 67 ∧ ¬ k = 70 ∧ ¬ k = 71 ∧ ¬ k = 72 ∧ ¬ k = 73 ∧ ¬ k = 74 ∧ ¬ k = 75
theorem MkW.of {w w1 : cx_W} {H : Gr} {kd px py : Nat → Nat} {na dr no fi : Nat → Int32} {nx fb : Nat → Nat} (h : MkW w H kd px py na dr no fi nx fb) (hk : ∀ k, k = 47 ∨ k = 48 ∨ k = 50 ∨ k = 56 ∨ k = 59 → w1 k = w k) : MkW w1 H kd px py na dr no fi nx fb := by
  obtain ⟨h47, h48, h50, h56, h59, r⟩ := h
  exact ⟨(hk 47 (by omega)).trans h47, (hk 48 (by omega)).trans h48, (hk 50 (by omega)).trans h50, (hk 56 (by omega)).trans h56, (hk 59 (by omega)).trans h59, r⟩
theorem GKM.wf {H : Gr} {kd px py : Nat → Nat} (h : GKM H kd px py) : wf kd px py H.1 := fun j hj => by
  have ⟨_, _, a, b⟩ := h j hj
  exact ⟨fun e => (a (.inl e)).2, fun e => ⟨(a (.inr e)).2, (b e).2.1, (b e).2.2⟩⟩
theorem lv_cm {H : Gr} {kd px py : Nat → Nat} {need : Nat → Bool} (hw : wf kd px py H.1) : ∀ k, k < H.1 → lvF H.1 kd px py need k = true → (kd k = 2 → lvF H.1 kd px py need (px k) = true) ∧ (kd k = 3 → lvF H.1 kd px py need (px k) = true ∧ lvF H.1 kd px py need (py k) = true) := lv_part hw
/-- gates are live logic nodes; their pins lie below them -/
theorem gd_m {H : Gr} {kd px py : Nat → Nat} {need : Nat → Bool} {p A cost : Nat → Nat} {cc : Nat} (hv : CovA H kd px py need p A cc cost) :
    ∀ k m, gF H.1 kd (rtF H.1 kd px py need) (fun g => (chosen kd px py (rtF H.1 kd px py need) p A cc cost g).2.2) k m → m < H.1 ∧ (lvF H.1 kd px py need m = true ∧ (kd m = 2 ∨ kd m = 3)) ∧ ∀ x, x ∈ (chosen kd px py (rtF H.1 kd px py need) p A cc cost m).2.2 → x < m := by
  have all : ∀ m, m < H.1 → (lvF H.1 kd px py need m = true ∧ (kd m = 2 ∨ kd m = 3)) → ∀ x, x ∈ (chosen kd px py (rtF H.1 kd px py need) p A cc cost m).2.2 → x < m ∧ lvF H.1 kd px py need x = true := by
    intro m hm hl
    obtain ⟨c, sw, pins, e1, e2, _, e4, _, e6, e7⟩ := chosen_eq (hv m hm hl.1 hl.2)
    rw [e1]; exact e6
  intro k m h
  have ⟨h1, h2⟩ := gF_in (Gd := fun m => lvF H.1 kd px py need m = true ∧ (kd m = 2 ∨ kd m = 3)) (fun m _ hr => rtF_lv hr) (fun g hg hgd x hx => ⟨by have := (all g hg hgd x hx).1; omega, fun hl => ⟨(all g hg hgd x hx).2, hl⟩⟩) k m h
  exact ⟨h1, h2, fun x hx => (all m h1 h2 x hx).1⟩
set_option maxHeartbeats 16000000 in
theorem mco_desc {w : cx_W} {H : Gr} {kd px py : Nat → Nat} {need : Nat → Bool} {p A cost : Nat → Nat} {cc oc : Nat} {na dr no fi on rr pa ar ch sp : Nat → Int32} {nx fb ond : Nat → Nat} {x0 x1 x2 x3 x5 x6 x8 x9 : Int32} (hW : MkW w H kd px py na dr no fi nx fb) (hL : MlW w H kd px py (rtF H.1 kd px py need) rr pa) (h62 : w 62 = ai 8 ar) (h60 : w 60 = ai 4 on) (hoc : oc ≤ 4) (hO : OutM H oc na on ond) (h68 : w 68 = ai 48 ch) (h69 : w 69 = ai 48 sp) (hcc : cc ≤ 8) (hC : CellsM cc pa ar p A) (hv : CovA H kd px py need p A cc cost) :
    ∀ (m : Nat) (w1 : cx_W) (cs gr so la_ lp op : Nat → Int32) (st : Nat → Int64) (x7 : Int32) (l2 : Option Value), m ≤ H.1 → w1 45 = oM x0 x1 x2 x3 (nI oc) x5 x6 x7 x8 x9 → w1 67 = ai 48 cs → w1 70 = az 48 gr → w1 71 = ai 8 op → w1 72 = ai 4 lp → w1 73 = ai 196 so → w1 74 = ai 196 la_ → w1 75 = al 196 st → (∀ k, fr6 k → w1 k = w k) → ChMA H kd px py need p A cc cost cs ch sp H.1 → BR 48 gr (gM H.1 kd (rtF H.1 kd px py need) (fun g => (chosen kd px py (rtF H.1 kd px py need) p A cc cost g).2.2) (H.1 - m)) →
    SrcM (fun x => chn (laN H) nx fb x 7) (gtF H.1 kd px py need p A cc cost) (fun g => (chosen kd px py (rtF H.1 kd px py need) p A cc cost g).2.2) so la_ st m → (∀ e, 192 ≤ e → e < 196 → so e = -1) →
    cx_OK none mM_cover 11 0 0 (fun r w2 _ => r = none ∧ MCov w2 (fun x => chn (laN H) nx fb x 7) (gtF H.1 kd px py need p A cc cost) (fun g => (chosen kd px py (rtF H.1 kd px py need) p A cc cost g).2.2) oc ond ∧ (∃ cs lp op x7, w2 45 = oM x0 x1 x2 x3 (nI oc) x5 x6 x7 x8 x9 ∧ w2 67 = ai 48 cs ∧ w2 71 = ai 8 op ∧ w2 72 = ai 4 lp ∧ ChMA H kd px py need p A cc cost cs ch sp H.1) ∧ ∀ k, fr6 k → w2 k = w k) 71 [some (.ref 45), some (.int (nI m - 1)), l2] [] w1 (87, 0, 0) := by
  have hW' := hW
  have hL' := hL
  obtain ⟨h47, h48, h50, h56, h59, hn, hK, hD, hF⟩ := hW
  obtain ⟨_, _, _, _, _, h61, h65, hrr⟩ := hL
  have hgd := gd_m hv
  intro m
  induction m with
  | zero =>
    intro w1 cs gr so la_ lp op st x7 l2 hm h45 h67 h70 h71 h72 h73 h74 h75 hk hA hB hS hs
    refine cx_run 100 mM_cover_mo ?_
    simp (decide := true) only [BmM_cover, nI_0, EV, EW, CT, ev_o, ev_is, ev_gd, List.length_cons, List.length_nil, Nat.reduceLT, Nat.reduceAdd, Nat.reduceEqDiff, Nat.reduceLeDiff, Int32.reduceLT, Int32.reduceLE, reduceIte, true_and, and_true, true_or, or_true, not_true_eq_false, not_false_eq_true, false_imp_iff, true_imp_iff, implies_true]
    rw [Nat.sub_zero] at hB
    refine cx_OK_mono (fun r w2 u q => ⟨q.1, q.2.1, ⟨cs, lp, op, x7, ?_, ?_, ?_, ?_, hA⟩, fun k z => ?_⟩) (mco_out (w := w1) (gt := gtF H.1 kd px py need p A cc cost) (pins := fun g => (chosen kd px py (rtF H.1 kd px py need) p A cc cost g).2.2) (hW'.of fun k q => hk k (by unfold fr6; omega)) h45 ((hk 60 (by unfold fr6; decide)).trans h60) hoc hO h70 (hB.congr fun j _ => gM_all) hS hs (fun g h => ?_) oc 0 w1 so la_ st _ (by omega) h73 h74 h75 (fun _ _ => rfl) (fun _ _ => ⟨rfl, rfl, rfl⟩) (fun k h => by omega))
    · exact (q.2.2 45 (by unfold fr5; decide)).trans h45
    · exact (q.2.2 67 (by unfold fr5; decide)).trans h67
    · exact (q.2.2 71 (by unfold fr5; decide)).trans h71
    · exact (q.2.2 72 (by unfold fr5; decide)).trans h72
    · have z' := z
      unfold fr6 at z
      exact (q.2.2 k (by unfold fr5; omega)).trans (hk k z')
    · have ⟨a, b, _⟩ := hgd _ g h
      obtain ⟨c, sw, pins, e1, _, _, e4, _, _, e7⟩ := chosen_eq (hv g a b.1 b.2)
      refine ⟨by omega, ?_⟩
      show (chosen kd px py (rtF H.1 kd px py need) p A cc cost g).2.2.length ≤ 4
      rw [e1, e7]; exact (pat_num (hC c e4).1).2.1
  | succ m ih =>
    intro w1 cs gr so la_ lp op st x7 l2 hm h45 h67 h70 h71 h72 h73 h74 h75 hk hA hB hS hs
    have k65 := (hk 65 (by unfold fr6; decide)).trans h65
    have v1 : vp_in (nI m) 48 := nI_in (by omega) (by decide)
    have hlt : ¬ nI m < 0 := nI_pos (by omega)
    have eu : H.1 - 1 - (H.1 - (m + 1)) = m := by omega
    have es : H.1 - m = (H.1 - (m + 1)) + 1 := by omega
    have rrm := hrr m (by omega)
    have hfin : gtF H.1 kd px py need p A cc cost m ↔ (gM H.1 kd (rtF H.1 kd px py need) (fun g => (chosen kd px py (rtF H.1 kd px py need) p A cc cost g).2.2) (H.1 - (m + 1)) m ∨ rtF H.1 kd px py need m = true) := by
      have h1 := gF_still (fun k i h => (hgd k i h).2.2) (m := m) (j := m + 1) (k := H.1 - (m + 1)) (by omega) (by omega)
      rw [show H.1 - (m + 1) + (m + 1) = H.1 by omega] at h1
      unfold gtF
      rw [h1, gF_gM _ (by omega)]
      exact ⟨fun h => h.elim .inl fun z => .inr z.2, fun h => h.elim .inl fun z => .inr ⟨by omega, z⟩⟩
    have fail : ¬ gtF H.1 kd px py need p A cc cost m → ∀ l2, cx_OK none mM_cover 11 0 0 (fun r w2 _ => r = none ∧ MCov w2 (fun x => chn (laN H) nx fb x 7) (gtF H.1 kd px py need p A cc cost) (fun g => (chosen kd px py (rtF H.1 kd px py need) p A cc cost g).2.2) oc ond ∧ (∃ cs lp op x7, w2 45 = oM x0 x1 x2 x3 (nI oc) x5 x6 x7 x8 x9 ∧ w2 67 = ai 48 cs ∧ w2 71 = ai 8 op ∧ w2 72 = ai 4 lp ∧ ChMA H kd px py need p A cc cost cs ch sp H.1) ∧ ∀ k, fr6 k → w2 k = w k) 71 [some (.ref 45), some (.int (nI m + -1)), l2] [] (cx_up w1 70 (az 48 (upd gr m 0))) (87, 0, 0) := by
      intro ng l2
      have hno : ¬ (gM H.1 kd (rtF H.1 kd px py need) (fun g => (chosen kd px py (rtF H.1 kd px py need) p A cc cost g).2.2) (H.1 - (m + 1)) m ∨ rtF H.1 kd px py need m = true) := fun z => ng (hfin.mpr z)
      have := ih (cx_up w1 70 (az 48 (upd gr m 0))) cs (upd gr m 0) so la_ lp op st x7 l2 (by omega) (by simp only [cx_up, Nat.reduceEqDiff, reduceIte]; exact h45) (by simp only [cx_up, Nat.reduceEqDiff, reduceIte]; exact h67) (by simp only [cx_up, Nat.reduceEqDiff, reduceIte]) (by simp only [cx_up, Nat.reduceEqDiff, reduceIte]; exact h71) (by simp only [cx_up, Nat.reduceEqDiff, reduceIte]; exact h72) (by simp only [cx_up, Nat.reduceEqDiff, reduceIte]; exact h73) (by simp only [cx_up, Nat.reduceEqDiff, reduceIte]; exact h74) (by simp only [cx_up, Nat.reduceEqDiff, reduceIte]; exact h75) (fun k q => by rw [← hk k q]; unfold fr6 at q; simp (disch := omega) only [cx_up, if_neg]) hA (by
        rw [es]
        refine hB.put (fun h => ?_) (fun _ => rfl) (fun j _ hj => ?_)
        · rw [gM, eu] at h
          rcases h with h | ⟨_, h⟩ | ⟨h, _⟩
          · exact absurd (.inl h) hno
          · exact absurd (.inr h) hno
          · exact absurd h hno
        · rw [gM, eu]
          exact ⟨.inl, fun h => h.elim id fun z => z.elim (fun y => absurd y.1 hj) fun y => absurd y.1 hno⟩) ⟨fun g h1 h2 => hS.1 g (by
          by_cases e : g = m
          · rw [e] at h2; exact absurd h2 ng
          · omega) h2, fun e h1 h2 => hS.2 e h1 fun z => h2 ⟨by omega, z.2⟩⟩ hs
      rw [Int32.sub_eq_add_neg] at this
      exact this
    refine cx_run 100 mM_cover_mo ?_
    rw [nI_pred]
    by_cases q : gM H.1 kd (rtF H.1 kd px py need) (fun g => (chosen kd px py (rtF H.1 kd px py need) p A cc cost g).2.2) (H.1 - (m + 1)) m
    · have F : gr m = 1 := (hB m (by omega)).1 q
      have yes := hfin.mpr (.inl q)
      have hg := hfin.mp yes
      have ⟨a1, a2, a3⟩ := hgd _ m yes
      obtain ⟨c, sw, pins, e1, e2, e3, e4, e5, e6, e7⟩ := chosen_eq (hv m a1 a2.1 a2.2)
      have ev := (hv m a1 a2.1 a2.2)
      obtain ⟨c1, c2, c3, c4⟩ := hC c e4
      have ⟨_, p4, p5, _, _, _⟩ := pat_num c1
      have w8 : 2 ^ nandsP (p c) ≤ 2 ^ 3 := Nat.pow_le_pow_right (by decide) p5
      have hR := hA m a1 a2.1 a2.2
      have eb : (bestC kd px py (rtF H.1 kd px py need) p A cc cost 1000000 m).2 = some (c, sw, pins) := by rw [← ev.1]; exact e2
      have ⟨r1, r2⟩ := hR.2 c sw pins eb
      have hval : (bestC kd px py (rtF H.1 kd px py need) p A cc cost 1000000 m).1 = valC kd (rtF H.1 kd px py need) A cost c pins := by
        obtain ⟨_, _, _, c', sw', pins', f1, _⟩ := ev
        rw [f1] at eb
        injection eb with eb
        injection eb with g1 g2
        injection g2 with g2 g3
        rw [f1, g1, g3]
      have F' : upd gr m 1 m = 1 := pk_us
      have k68 := (hk 68 (by unfold fr6; decide)).trans h68
      have k69 := (hk 69 (by unfold fr6; decide)).trans h69
      have hcsx : ∀ x, x < m → lvF H.1 kd px py need x = true → nr kd (rtF H.1 kd px py need) x → cs x = nI (cost x) := fun x hx hlx hrx => by
        have v := hv x (by omega) hlx hrx.1
        rw [(hA x (by omega) hlx hrx.1).1, ← v.2.1]
      simp (decide := true) only [BmM_cover, h45, h67, h70, k65, k68, k69, v1, hlt, F, F', r1, r2, nI_clamp (n := m) (by omega), EV, EW, CT, ev_o, ev_is, ev_gd, List.length_cons, List.length_nil, Nat.reduceLT, Nat.reduceAdd, Nat.reduceEqDiff, Nat.reduceLeDiff, Int32.reduceLT, Int32.reduceLE, reduceIte, true_and, and_true, true_or, or_true, not_true_eq_false, not_false_eq_true, false_imp_iff, true_imp_iff, implies_true]
      refine cx_cs1 9 0 0 (by decide) (c_M_lay (sw := sw) (q := p c) (A := A c) (cost := cost) (Lv := fun x => lvF H.1 kd px py need x = true) (x0 := x0) (x1 := x1) (x2 := x2) (x3 := x3) (x4 := nI oc) (x5 := x5) (x6 := x6) (x7 := x7) (x8 := x8) (x9 := x9) (hL'.of fun k q => by rw [← hk k (by unfold fr6; omega)]; simp (disch := omega) only [cx_up, if_neg]) (by simp only [cx_up, Nat.reduceEqDiff, reduceIte]; exact h45) (by simp only [cx_up, Nat.reduceEqDiff, reduceIte]; exact (hk 62 (by unfold fr6; decide)).trans h62) (by simp only [cx_up, Nat.reduceEqDiff, reduceIte]; exact h67) (by simp only [cx_up, Nat.reduceEqDiff, reduceIte]; exact h71) (by simp only [cx_up, Nat.reduceEqDiff, reduceIte]; exact h72) (by omega) c2 c3 c1 (by omega) hcsx (lv_cm hK.wf) a2.1 hK.wf a1) fun r w2 h2 => ?_
      obtain ⟨⟨op2, lp2, b71, b72, hr⟩, bk⟩ := h2
      rcases hr with ⟨pins2, l1, l2, l3, rfl⟩ | ⟨l1, _⟩
      · have epin : pins2 = pins := by
          have : some pins2 = some pins := l1.symm.trans e3
          injection this
        subst epin
        have b67 : w2 67 = ai 48 cs := (bk 67 (by decide)).trans (by simp only [cx_up, Nat.reduceEqDiff, reduceIte]; exact h67)
        have b70 : w2 70 = az 48 (upd gr m 1) := (bk 70 (by decide)).trans (by simp only [cx_up, Nat.reduceEqDiff, reduceIte])
        simp (decide := true) only [BmM_cover, b67, v1, nI_clamp (n := m) (by omega), EV, EW, CT, ev_o, ev_is, ev_gd, List.length_cons, List.length_nil, Nat.reduceLT, Nat.reduceAdd, Nat.reduceEqDiff, Nat.reduceLeDiff, Int32.reduceLT, Int32.reduceLE, reduceIte, true_and, and_true, true_or, or_true, not_true_eq_false, not_false_eq_true, false_imp_iff, true_imp_iff, implies_true]
        have f : ∀ k, ¬ k = 45 ∧ ¬ k = 67 ∧ ¬ k = 70 ∧ ¬ k = 71 ∧ ¬ k = 72 → cx_up w2 67 (ai 48 (upd cs m (nI (A c + sumL (pc kd (rtF H.1 kd px py need) cost) pins2)))) k = w1 k := fun k q => by
          have := bk k (by omega)
          simp (disch := omega) only [cx_up, if_neg] at this ⊢
          exact this
        refine mcp_loop (w := cx_up w2 67 (ai 48 (upd cs m (nI (A c + sumL (pc kd (rtF H.1 kd px py need) cost) pins2))))) (l := pins2) (P := fun j => gM H.1 kd (rtF H.1 kd px py need) (fun g => (chosen kd px py (rtF H.1 kd px py need) p A cc cost g).2.2) (H.1 - (m + 1)) j ∨ j = m) (lp := lp2) (so0 := so) (la0 := la_) (st0 := st) (x0 := x0) (x1 := x1) (x2 := x2) (x3 := x3) (x4 := nI oc) (x5 := x5) (x6 := x6) (x8 := x8) (x9 := x9) (hW'.of fun k q => (f k (by omega)).trans (hk k (by unfold fr6; omega))) (by simp only [cx_up, Nat.reduceEqDiff, reduceIte]; exact l3) (by simp only [cx_up, Nat.reduceEqDiff, reduceIte]; exact b72) l2 (by omega) (fun x hx => by have := (e6 x hx).1; omega) (by omega) (fun w3 gr3 so3 la3 st3 l2'' d70 d73 d74 d75 dk dB de dA => ?_) pins2.length 0 _ (upd gr m 1) so la_ st (by omega) (by simp only [cx_up, Nat.reduceEqDiff, reduceIte]; exact b70) ((f 73 (by decide)).trans h73) ((f 74 (by decide)).trans h74) ((f 75 (by decide)).trans h75) (fun _ _ => rfl) (by
          rw [Nat.sub_zero, List.drop_length]
          exact hB.set.congr fun j _ => ⟨.inl, fun h => h.elim id fun z => absurd z.1 (by simp)⟩) (fun _ _ => ⟨rfl, rfl, rfl⟩) (fun j h => by omega)
        have D : ∀ k, fr5 k → w3 k = cx_up w2 67 (ai 48 (upd cs m (nI (A c + sumL (pc kd (rtF H.1 kd px py need) cost) pins2)))) k := dk
        have nxt := ih w3 (upd cs m (nI (A c + sumL (pc kd (rtF H.1 kd px py need) cost) pins2))) gr3 so3 la3 lp2 op2 st3 (nI pins2.length) l2'' (by omega) ((D 45 (by unfold fr5; decide)).trans (by simp only [cx_up, Nat.reduceEqDiff, reduceIte]; exact l3)) ((D 67 (by unfold fr5; decide)).trans (by simp only [cx_up, Nat.reduceEqDiff, reduceIte])) d70 ((D 71 (by unfold fr5; decide)).trans (by simp only [cx_up, Nat.reduceEqDiff, reduceIte]; exact b71)) ((D 72 (by unfold fr5; decide)).trans (by simp only [cx_up, Nat.reduceEqDiff, reduceIte]; exact b72)) d73 d74 d75 (fun k q => ?_) (fun j h1 h2 h3 => ?_) ?_ ⟨fun g h1 h2 j hj => ?_, fun e h1 h2 => ?_⟩ (fun e h1 h2 => ?_)
        · rw [Int32.sub_eq_add_neg] at nxt
          exact nxt
        · have q' := q
          unfold fr6 at q
          exact (D k (by unfold fr5; omega)).trans ((f k (by omega)).trans (hk k q'))
        · have hj := hA j h1 h2 h3
          refine ⟨?_, hj.2⟩
          by_cases e : j = m
          · subst e; rw [pk_us, hval]; rfl
          · rw [pk_un e]; exact hj.1
        · rw [es]
          refine dB.congr fun j _ => ?_
          rw [gM, eu]
          have ec : (chosen kd px py (rtF H.1 kd px py need) p A cc cost m).2.2 = pins2 := by rw [e1]
          simp only [ec]
          constructor
          · rintro ((h | h) | ⟨h1, h2⟩)
            · exact .inl h
            · rcases hg with g | g
              · exact .inl (by rw [h]; exact g)
              · exact .inr (.inl ⟨h, g⟩)
            · exact .inr (.inr ⟨hg, h1, h2⟩)
          · rintro (h | ⟨h, _⟩ | ⟨_, h1, h2⟩)
            · exact .inl (.inl h)
            · exact .inl (.inr h)
            · exact .inr ⟨h1, h2⟩
        · by_cases e : g = m
          · subst e
            have ec : (chosen kd px py (rtF H.1 kd px py need) p A cc cost g).2.2 = pins2 := by rw [e1]
            simp only [ec] at hj ⊢
            exact dA j hj
          · have ⟨q1, q2, _⟩ := hgd _ g h2
            obtain ⟨c', _, _, f1, _, _, f4, _, _, f7⟩ := chosen_eq (hv g q1 q2.1 q2.2)
            have hlen : (chosen kd px py (rtF H.1 kd px py need) p A cc cost g).2.2.length ≤ 4 := by rw [f1, f7]; exact (pat_num (hC c' f4).1).2.1
            have hj' : j < (chosen kd px py (rtF H.1 kd px py need) p A cc cost g).2.2.length := hj
            have ⟨b1, b2, b3⟩ := de (4 * g + j) (by omega)
            rw [b1, b2, b3]
            exact hS.1 g (by omega) h2 j hj
        · by_cases e' : e / 4 = m
          · have : ¬ (4 * m ≤ e ∧ e < 4 * m + pins2.length) := fun z => h2 ⟨by omega, by rw [e']; exact yes, by
              rw [e']
              show e % 4 < (chosen kd px py (rtF H.1 kd px py need) p A cc cost m).2.2.length
              rw [e1]; show e % 4 < pins2.length; omega⟩
            rw [(de e this).1]
            exact hS.2 e h1 fun z => by omega
          · rw [(de e (by omega)).1]
            exact hS.2 e h1 fun z => h2 ⟨by omega, z.2⟩
        · rw [(de e (by omega)).1]; exact hs e h1 h2
      · have : layC kd px py (rtF H.1 kd px py need) p m c sw = none := l1
        rw [e3] at this; cases this
    · have F : gr m = 0 := (hB m (by omega)).2 q
      cases hr : rtF H.1 kd px py need m
      · have F2 : rr m = 0 := rrm.2 fun z => by have y : rtF H.1 kd px py need m = true := z.2; rw [hr] at y; cases y
        have F3 : upd gr m 0 m = 0 := pk_us
        simp (decide := true) only [BmM_cover, h45, h70, k65, v1, hlt, F, F2, F3, nI_clamp (n := m) (by omega), EV, EW, CT, ev_o, ev_is, ev_gd, List.length_cons, List.length_nil, Nat.reduceLT, Nat.reduceAdd, Nat.reduceEqDiff, Nat.reduceLeDiff, Int32.reduceLT, Int32.reduceLE, reduceIte, true_and, and_true, true_or, or_true, not_true_eq_false, not_false_eq_true, false_imp_iff, true_imp_iff, implies_true]
        exact fail (fun z => (hfin.mp z).elim (fun y => q y) fun y => by rw [hr] at y; cases y) _
      · have F2 : rr m = 1 := rrm.1 ⟨by omega, hr⟩
        have yes := hfin.mpr (.inr hr)
        have hg := hfin.mp yes
        have ⟨a1, a2, a3⟩ := hgd _ m yes
        obtain ⟨c, sw, pins, e1, e2, e3, e4, e5, e6, e7⟩ := chosen_eq (hv m a1 a2.1 a2.2)
        have ev := (hv m a1 a2.1 a2.2)
        obtain ⟨c1, c2, c3, c4⟩ := hC c e4
        have ⟨_, p4, p5, _, _, _⟩ := pat_num c1
        have w8 : 2 ^ nandsP (p c) ≤ 2 ^ 3 := Nat.pow_le_pow_right (by decide) p5
        have hR := hA m a1 a2.1 a2.2
        have eb : (bestC kd px py (rtF H.1 kd px py need) p A cc cost 1000000 m).2 = some (c, sw, pins) := by rw [← ev.1]; exact e2
        have ⟨r1, r2⟩ := hR.2 c sw pins eb
        have hval : (bestC kd px py (rtF H.1 kd px py need) p A cc cost 1000000 m).1 = valC kd (rtF H.1 kd px py need) A cost c pins := by
          obtain ⟨_, _, _, c', sw', pins', f1, _⟩ := ev
          rw [f1] at eb
          injection eb with eb
          injection eb with g1 g2
          injection g2 with g2 g3
          rw [f1, g1, g3]
        have F' : upd gr m 1 m = 1 := pk_us
        have k68 := (hk 68 (by unfold fr6; decide)).trans h68
        have k69 := (hk 69 (by unfold fr6; decide)).trans h69
        have hcsx : ∀ x, x < m → lvF H.1 kd px py need x = true → nr kd (rtF H.1 kd px py need) x → cs x = nI (cost x) := fun x hx hlx hrx => by
          have v := hv x (by omega) hlx hrx.1
          rw [(hA x (by omega) hlx hrx.1).1, ← v.2.1]
        simp (decide := true) only [BmM_cover, h45, h67, h70, k65, k68, k69, v1, hlt, F, F2, F', r1, r2, nI_clamp (n := m) (by omega), EV, EW, CT, ev_o, ev_is, ev_gd, List.length_cons, List.length_nil, Nat.reduceLT, Nat.reduceAdd, Nat.reduceEqDiff, Nat.reduceLeDiff, Int32.reduceLT, Int32.reduceLE, reduceIte, true_and, and_true, true_or, or_true, not_true_eq_false, not_false_eq_true, false_imp_iff, true_imp_iff, implies_true]
        refine cx_cs1 9 0 0 (by decide) (c_M_lay (sw := sw) (q := p c) (A := A c) (cost := cost) (Lv := fun x => lvF H.1 kd px py need x = true) (x0 := x0) (x1 := x1) (x2 := x2) (x3 := x3) (x4 := nI oc) (x5 := x5) (x6 := x6) (x7 := x7) (x8 := x8) (x9 := x9) (hL'.of fun k q => by rw [← hk k (by unfold fr6; omega)]; simp (disch := omega) only [cx_up, if_neg]) (by simp only [cx_up, Nat.reduceEqDiff, reduceIte]; exact h45) (by simp only [cx_up, Nat.reduceEqDiff, reduceIte]; exact (hk 62 (by unfold fr6; decide)).trans h62) (by simp only [cx_up, Nat.reduceEqDiff, reduceIte]; exact h67) (by simp only [cx_up, Nat.reduceEqDiff, reduceIte]; exact h71) (by simp only [cx_up, Nat.reduceEqDiff, reduceIte]; exact h72) (by omega) c2 c3 c1 (by omega) hcsx (lv_cm hK.wf) a2.1 hK.wf a1) fun r w2 h2 => ?_
        obtain ⟨⟨op2, lp2, b71, b72, hr⟩, bk⟩ := h2
        rcases hr with ⟨pins2, l1, l2, l3, rfl⟩ | ⟨l1, _⟩
        · have epin : pins2 = pins := by
            have : some pins2 = some pins := l1.symm.trans e3
            injection this
          subst epin
          have b67 : w2 67 = ai 48 cs := (bk 67 (by decide)).trans (by simp only [cx_up, Nat.reduceEqDiff, reduceIte]; exact h67)
          have b70 : w2 70 = az 48 (upd gr m 1) := (bk 70 (by decide)).trans (by simp only [cx_up, Nat.reduceEqDiff, reduceIte])
          simp (decide := true) only [BmM_cover, b67, v1, nI_clamp (n := m) (by omega), EV, EW, CT, ev_o, ev_is, ev_gd, List.length_cons, List.length_nil, Nat.reduceLT, Nat.reduceAdd, Nat.reduceEqDiff, Nat.reduceLeDiff, Int32.reduceLT, Int32.reduceLE, reduceIte, true_and, and_true, true_or, or_true, not_true_eq_false, not_false_eq_true, false_imp_iff, true_imp_iff, implies_true]
          have f : ∀ k, ¬ k = 45 ∧ ¬ k = 67 ∧ ¬ k = 70 ∧ ¬ k = 71 ∧ ¬ k = 72 → cx_up w2 67 (ai 48 (upd cs m (nI (A c + sumL (pc kd (rtF H.1 kd px py need) cost) pins2)))) k = w1 k := fun k q => by
            have := bk k (by omega)
            simp (disch := omega) only [cx_up, if_neg] at this ⊢
            exact this
          refine mcp_loop (w := cx_up w2 67 (ai 48 (upd cs m (nI (A c + sumL (pc kd (rtF H.1 kd px py need) cost) pins2))))) (l := pins2) (P := fun j => gM H.1 kd (rtF H.1 kd px py need) (fun g => (chosen kd px py (rtF H.1 kd px py need) p A cc cost g).2.2) (H.1 - (m + 1)) j ∨ j = m) (lp := lp2) (so0 := so) (la0 := la_) (st0 := st) (x0 := x0) (x1 := x1) (x2 := x2) (x3 := x3) (x4 := nI oc) (x5 := x5) (x6 := x6) (x8 := x8) (x9 := x9) (hW'.of fun k q => (f k (by omega)).trans (hk k (by unfold fr6; omega))) (by simp only [cx_up, Nat.reduceEqDiff, reduceIte]; exact l3) (by simp only [cx_up, Nat.reduceEqDiff, reduceIte]; exact b72) l2 (by omega) (fun x hx => by have := (e6 x hx).1; omega) (by omega) (fun w3 gr3 so3 la3 st3 l2'' d70 d73 d74 d75 dk dB de dA => ?_) pins2.length 0 _ (upd gr m 1) so la_ st (by omega) (by simp only [cx_up, Nat.reduceEqDiff, reduceIte]; exact b70) ((f 73 (by decide)).trans h73) ((f 74 (by decide)).trans h74) ((f 75 (by decide)).trans h75) (fun _ _ => rfl) (by
            rw [Nat.sub_zero, List.drop_length]
            exact hB.set.congr fun j _ => ⟨.inl, fun h => h.elim id fun z => absurd z.1 (by simp)⟩) (fun _ _ => ⟨rfl, rfl, rfl⟩) (fun j h => by omega)
          have D : ∀ k, fr5 k → w3 k = cx_up w2 67 (ai 48 (upd cs m (nI (A c + sumL (pc kd (rtF H.1 kd px py need) cost) pins2)))) k := dk
          have nxt := ih w3 (upd cs m (nI (A c + sumL (pc kd (rtF H.1 kd px py need) cost) pins2))) gr3 so3 la3 lp2 op2 st3 (nI pins2.length) l2'' (by omega) ((D 45 (by unfold fr5; decide)).trans (by simp only [cx_up, Nat.reduceEqDiff, reduceIte]; exact l3)) ((D 67 (by unfold fr5; decide)).trans (by simp only [cx_up, Nat.reduceEqDiff, reduceIte])) d70 ((D 71 (by unfold fr5; decide)).trans (by simp only [cx_up, Nat.reduceEqDiff, reduceIte]; exact b71)) ((D 72 (by unfold fr5; decide)).trans (by simp only [cx_up, Nat.reduceEqDiff, reduceIte]; exact b72)) d73 d74 d75 (fun k q => ?_) (fun j h1 h2 h3 => ?_) ?_ ⟨fun g h1 h2 j hj => ?_, fun e h1 h2 => ?_⟩ (fun e h1 h2 => ?_)
          · rw [Int32.sub_eq_add_neg] at nxt
            exact nxt
          · have q' := q
            unfold fr6 at q
            exact (D k (by unfold fr5; omega)).trans ((f k (by omega)).trans (hk k q'))
          · have hj := hA j h1 h2 h3
            refine ⟨?_, hj.2⟩
            by_cases e : j = m
            · subst e; rw [pk_us, hval]; rfl
            · rw [pk_un e]; exact hj.1
          · rw [es]
            refine dB.congr fun j _ => ?_
            rw [gM, eu]
            have ec : (chosen kd px py (rtF H.1 kd px py need) p A cc cost m).2.2 = pins2 := by rw [e1]
            simp only [ec]
            constructor
            · rintro ((h | h) | ⟨h1, h2⟩)
              · exact .inl h
              · rcases hg with g | g
                · exact .inl (by rw [h]; exact g)
                · exact .inr (.inl ⟨h, g⟩)
              · exact .inr (.inr ⟨hg, h1, h2⟩)
            · rintro (h | ⟨h, _⟩ | ⟨_, h1, h2⟩)
              · exact .inl (.inl h)
              · exact .inl (.inr h)
              · exact .inr ⟨h1, h2⟩
          · by_cases e : g = m
            · subst e
              have ec : (chosen kd px py (rtF H.1 kd px py need) p A cc cost g).2.2 = pins2 := by rw [e1]
              simp only [ec] at hj ⊢
              exact dA j hj
            · have ⟨q1, q2, _⟩ := hgd _ g h2
              obtain ⟨c', _, _, f1, _, _, f4, _, _, f7⟩ := chosen_eq (hv g q1 q2.1 q2.2)
              have hlen : (chosen kd px py (rtF H.1 kd px py need) p A cc cost g).2.2.length ≤ 4 := by rw [f1, f7]; exact (pat_num (hC c' f4).1).2.1
              have hj' : j < (chosen kd px py (rtF H.1 kd px py need) p A cc cost g).2.2.length := hj
              have ⟨b1, b2, b3⟩ := de (4 * g + j) (by omega)
              rw [b1, b2, b3]
              exact hS.1 g (by omega) h2 j hj
          · by_cases e' : e / 4 = m
            · have : ¬ (4 * m ≤ e ∧ e < 4 * m + pins2.length) := fun z => h2 ⟨by omega, by rw [e']; exact yes, by
                rw [e']
                show e % 4 < (chosen kd px py (rtF H.1 kd px py need) p A cc cost m).2.2.length
                rw [e1]; show e % 4 < pins2.length; omega⟩
              rw [(de e this).1]
              exact hS.2 e h1 fun z => by omega
            · rw [(de e (by omega)).1]
              exact hS.2 e h1 fun z => h2 ⟨by omega, z.2⟩
          · rw [(de e (by omega)).1]; exact hs e h1 h2
        · have : layC kd px py (rtF H.1 kd px py need) p m c sw = none := l1
          rw [e3] at this; cases this

