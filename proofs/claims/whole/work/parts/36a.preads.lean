/-! Both sides read alike when mapped. Own work. -/
/-- mapped or not -/
theorem Inv_01 {s : Nat → Nat} (h : s 0 ≤ 1) : s 0 = 0 ∨ s 0 = 1 := by omega
theorem P_period {w : cx_W} (h : Inv MapI w) : PairI 13 191 [] w (Inv MapI) := by
  have hI := h
  obtain ⟨s, X, hs0, hS, ⟨o0, o1, o6, o13, o20, o30, o36, o40, o45⟩, hB, hM⟩ := h
  have e0 : cx_ci (w 0) = some 0 := by rw [o0]; rfl
  have e8 : cx_ci (w 45) = some 8 := by rw [o45]; rfl
  rcases Inv_01 hs0 with z | z
  · rw [z] at o0 o45
    refine ⟨e0, _, u_C_period o0, fun r w2 h2 => ?_⟩
    obtain ⟨rfl, rfl⟩ := h2
    exact ⟨e8, _, _, rfl, u_M_period o45, fun r2 w3 h3 => ⟨h3.1, h3.2 ▸ hI⟩⟩
  · obtain ⟨gt, q, pl, d, F, fo, S, L, B, tf, tbl, mv, cn, ro, pv, cel, key, Pb, P, a1, a2, a3, a4, hc, hm⟩ := hM z
    obtain ⟨gs, ch, pn, tb, sr, fg, gm, ct, mr, or_, rw, pw, od, hA, h36, _⟩ := hc
    obtain ⟨pa, dl, ch2, gr, so, la_, mr2, kp, sr2, lr, pr, x0, x1, x2, x5, x7, hW, h45, _⟩ := hm
    rw [z] at o0
    refine ⟨e0, _, c_C_period o0 h36, fun r w2 h2 => ?_⟩
    obtain ⟨rfl, rfl⟩ := h2
    exact ⟨e8, _, _, rfl, c_M_period h45, fun r2 w3 h3 => ⟨h3.1, h3.2 ▸ hI⟩⟩
theorem P_shortest {w : cx_W} (h : Inv MapI w) : PairI 14 192 [] w (Inv MapI) := by
  have hI := h
  obtain ⟨s, X, hs0, hS, ⟨o0, o1, o6, o13, o20, o30, o36, o40, o45⟩, hB, hM⟩ := h
  have e0 : cx_ci (w 0) = some 0 := by rw [o0]; rfl
  have e8 : cx_ci (w 45) = some 8 := by rw [o45]; rfl
  rcases Inv_01 hs0 with z | z
  · rw [z] at o0 o45
    refine ⟨e0, _, u_C_shortest o0, fun r w2 h2 => ?_⟩
    obtain ⟨rfl, rfl⟩ := h2
    exact ⟨e8, _, _, rfl, u_M_shortest o45, fun r2 w3 h3 => ⟨h3.1, h3.2 ▸ hI⟩⟩
  · obtain ⟨gt, q, pl, d, F, fo, S, L, B, tf, tbl, mv, cn, ro, pv, cel, key, Pb, P, a1, a2, a3, a4, hc, hm⟩ := hM z
    obtain ⟨gs, ch, pn, tb, sr, fg, gm, ct, mr, or_, rw, pw, od, hA, h36, _⟩ := hc
    obtain ⟨pa, dl, ch2, gr, so, la_, mr2, kp, sr2, lr, pr, x0, x1, x2, x5, x7, hW, h45, _⟩ := hm
    rw [z] at o0
    refine ⟨e0, _, c_C_shortest o0 h36, fun r w2 h2 => ?_⟩
    obtain ⟨rfl, rfl⟩ := h2
    exact ⟨e8, _, _, rfl, c_M_shortest h45, fun r2 w3 h3 => ⟨h3.1, h3.2 ▸ hI⟩⟩
theorem P_area {w : cx_W} (h : Inv MapI w) : PairI 11 188 [] w (Inv MapI) := by
  have hI := h
  obtain ⟨s, X, hs0, hS, ⟨o0, o1, o6, o13, o20, o30, o36, o40, o45⟩, hB, hM⟩ := h
  have n1 := hB.1.1
  have e0 : cx_ci (w 0) = some 0 := by rw [o0]; rfl
  have e8 : cx_ci (w 45) = some 8 := by rw [o45]; rfl
  rcases Inv_01 hs0 with z | z
  · rw [z] at o0 o45
    refine ⟨e0, _, u_C_area o0, fun r w2 h2 => ?_⟩
    obtain ⟨rfl, rfl⟩ := h2
    exact ⟨e8, _, _, rfl, u_M_area o45, fun r2 w3 h3 => ⟨h3.1, h3.2 ▸ hI⟩⟩
  · obtain ⟨gt, q, pl, d, F, fo, S, L, B, tf, tbl, mv, cn, ro, pv, cel, key, Pb, P, a1, a2, a3, a4, hc, hm⟩ := hM z
    obtain ⟨gs, ch, pn, tb, sr, fg, gm, ct, mr, or_, rw, pw, od, hA, h36, h37, hmr, h34, hro, h41, hpv, h42, hor, hcel⟩ := hc
    obtain ⟨pa, dl, ch2, gr, so, la_, mr2, kp, sr2, lr, pr, x0, x1, x2, x5, x7, hW, h45, _, _, _, _, _, _, _, _, hcel2⟩ := hm
    obtain ⟨⟨⟨y1, ⟨y2x, y2⟩, y3, y4, y5, y6, y7, y8, y9, y10⟩, hgs, yr⟩, z1, z2, z3, z4, z5, z6⟩ := hA
    obtain ⟨⟨v1, v2, v3, v4, v5, v6, v7⟩, hgr, _⟩ := hW
    rw [z] at o0
    refine ⟨e0, _, c_C_area n1 o0 y2 y5 y7 hgs (hS.i 15 rfl (by decide)) y6 hcel, fun r w2 h2 => ?_⟩
    obtain ⟨rfl, rfl⟩ := h2
    refine ⟨e8, _, _, rfl, c_M_area n1 h45 v6 hgr (hS.i 62 rfl (by decide)) v5 (fun g hg => ⟨hcel2 g hg, (hcel g hg).2⟩), fun r2 w3 h3 => ⟨h3.1.trans ?_, h3.2 ▸ hI⟩⟩
    have : ∀ n, arI gt (fun g => rowW w2 62 (cel g)) n = arI gt (fun g => rowW w2 15 (cel g)) n := fun n => by
      induction n with
      | zero => rfl
      | succ n ih =>
        by_cases g : gt n
        · rw [arI_t g, arI_t g, ih, a4 n g]
        · rw [arI_f g, arI_f g, ih]
    exact congrArg (fun x => some (Value.int x)) (this _)
theorem P_cellAt {w : cx_W} (h : Inv MapI w) (a : Int32) : PairI 12 190 [.int a] w (Inv MapI) := by
  have hI := h
  obtain ⟨s, X, hs0, hS, ⟨o0, o1, o6, o13, o20, o30, o36, o40, o45⟩, hB, hM⟩ := h
  have n1 := hB.1.1
  have e0 : cx_ci (w 0) = some 0 := by rw [o0]; rfl
  have e8 : cx_ci (w 45) = some 8 := by rw [o45]; rfl
  rcases Inv_01 hs0 with z | z
  · rw [z] at o0 o45
    refine ⟨e0, _, u_C_cellAt o0 a, fun r w2 h2 => ?_⟩
    obtain ⟨rfl, rfl⟩ := h2
    exact ⟨e8, _, _, rfl, u_M_cellAt o45 a, fun r2 w3 h3 => ⟨h3.1, h3.2 ▸ hI⟩⟩
  · obtain ⟨gt, q, pl, d, F, fo, S, L, B, tf, tbl, mv, cn, ro, pv, cel, key, Pb, P, a1, a2, a3, a4, hc, hm⟩ := hM z
    obtain ⟨gs, ch, pn, tb, sr, fg, gm, ct, mr, or_, rw, pw, od, hA, h36, h37, hmr, h34, hro, h41, hpv, h42, hor, hcel⟩ := hc
    obtain ⟨pa, dl, ch2, gr, so, la_, mr2, kp, sr2, lr, pr, x0, x1, x2, x5, x7, hW, h45, _, _, _, _, _, _, _, _, hcel2⟩ := hm
    obtain ⟨⟨⟨y1, ⟨y2x, y2⟩, y3, y4, y5, y6, y7, y8, y9, y10⟩, hgs, yr⟩, z1, z2, z3, z4, z5, z6⟩ := hA
    obtain ⟨⟨v1, v2, v3, v4, v5, v6, v7⟩, hgr, _⟩ := hW
    rw [z] at o0
    by_cases hg : isG (s 1) gt a
    · obtain ⟨g, gl, rfl, gg⟩ := hg
      refine ⟨e0, _, c_C_cellAt n1 o0 z1 y5 z2 z3 y6 gl gg, fun r w2 h2 => ?_⟩
      obtain ⟨rfl, rfl⟩ := h2
      exact ⟨e8, _, _, rfl, c_M_cellAt n1 h45 v6 hgr v5 gl gg, fun r2 w3 h3 => ⟨h3.1.trans (by rw [hcel2 g gg, (hcel g gg).1]), h3.2 ▸ hI⟩⟩
    · refine ⟨e0, _, c_C_cellAt_no a n1 o0 z1 y5 z2 z3 hg, fun r w2 h2 => ?_⟩
      obtain ⟨rfl, rfl⟩ := h2
      exact ⟨e8, _, _, rfl, c_M_cellAt_no a n1 h45 v6 hgr hg, fun r2 w3 h3 => ⟨h3.1, h3.2 ▸ hI⟩⟩
theorem P_moves {w : cx_W} (h : Inv MapI w) (a : Int32) : PairI 15 193 [.int a] w (Inv MapI) := by
  have hI := h
  obtain ⟨s, X, hs0, hS, ⟨o0, o1, o6, o13, o20, o30, o36, o40, o45⟩, hB, hM⟩ := h
  have n1 := hB.1.1
  have e0 : cx_ci (w 0) = some 0 := by rw [o0]; rfl
  have e8 : cx_ci (w 45) = some 8 := by rw [o45]; rfl
  rcases Inv_01 hs0 with z | z
  · rw [z] at o0 o45
    refine ⟨e0, _, u_C_moves o0 a, fun r w2 h2 => ?_⟩
    obtain ⟨rfl, rfl⟩ := h2
    exact ⟨e8, _, _, rfl, u_M_moves o45 a, fun r2 w3 h3 => ⟨h3.1, h3.2 ▸ hI⟩⟩
  · obtain ⟨gt, q, pl, d, F, fo, S, L, B, tf, tbl, mv, cn, ro, pv, cel, key, Pb, P, a1, a2, a3, a4, hc, hm⟩ := hM z
    obtain ⟨gs, ch, pn, tb, sr, fg, gm, ct, mr, or_, rw, pw, od, hA, h36, h37, hmr, h34, hro, h41, hpv, h42, hor, hcel⟩ := hc
    obtain ⟨pa, dl, ch2, gr, so, la_, mr2, kp, sr2, lr, pr, x0, x1, x2, x5, x7, hW, h45, h81, hmr2, _, _, _, _, _, _, hcel2⟩ := hm
    obtain ⟨⟨⟨y1, ⟨y2x, y2⟩, y3, y4, y5, y6, y7, y8, y9, y10⟩, hgs, yr⟩, z1, z2, z3, z4, z5, z6⟩ := hA
    obtain ⟨⟨v1, v2, v3, v4, v5, v6, v7⟩, hgr, _⟩ := hW
    rw [z] at o0
    by_cases hg : isG (s 1) gt a
    · obtain ⟨g, gl, rfl, gg⟩ := hg
      refine ⟨e0, _, c_C_moves n1 o0 z1 y5 h36 z2 z3 h37 gl gg, fun r w2 h2 => ?_⟩
      obtain ⟨rfl, rfl⟩ := h2
      exact ⟨e8, _, _, rfl, c_M_moves n1 h45 v6 hgr h81 gl gg, fun r2 w3 h3 => ⟨h3.1.trans (by rw [hmr2 g (by omega), hmr g (by omega)]), h3.2 ▸ hI⟩⟩
    · refine ⟨e0, _, c_C_moves_no a n1 o0 z1 y5 z2 z3 hg, fun r w2 h2 => ?_⟩
      obtain ⟨rfl, rfl⟩ := h2
      exact ⟨e8, _, _, rfl, c_M_moves_no a n1 h45 v6 hgr hg, fun r2 w3 h3 => ⟨h3.1, h3.2 ▸ hI⟩⟩
set_option maxHeartbeats 4000000 in
theorem P_latches {w : cx_W} (h : Inv MapI w) (a b : Int32) : PairL 16 194 [.int a, .int b] w (Inv MapI) := by
  have hI := h
  obtain ⟨s, X, hs0, hS, ⟨o0, o1, o6, o13, o20, o30, o36, o40, o45⟩, hB, hM⟩ := h
  have n1 := hB.1.1
  have n5 := hB.1.2.2.2.2.1
  have e0 : cx_ci (w 0) = some 0 := by rw [o0]; rfl
  have e8 : cx_ci (w 45) = some 8 := by rw [o45]; rfl
  rcases Inv_01 hs0 with z | z
  · rw [z] at o0 o45
    refine ⟨e0, _, u_C_latches o0 a b, fun r w2 h2 => ?_⟩
    obtain ⟨rfl, rfl⟩ := h2
    exact ⟨e8, _, _, rfl, u_M_latches o45 a b, fun r2 w3 h3 => ⟨h3.1, h3.2 ▸ hI⟩⟩
  · obtain ⟨gt, q, pl, d, F, fo, S, L, B, tf, tbl, mv, cn, ro, pv, cel, key, Pb, P, hP, a2, a3, a4, hc, hm⟩ := hM z
    obtain ⟨gs, ch, pn, tb, sr, fg, gm, ct, mr, or_, rw, pw, od, hA, h36, h37, hmr, h34, hro, h41, hpv, h42, hor, hcel⟩ := hc
    obtain ⟨pa, dl, ch2, gr, so, la_, mr2, kp, sr2, lr, pr, x0, x1, x2, x5, x7, hW, h45, h81, hmr2, h76, hkp, h77, hlr, h78, hpr, hcel2⟩ := hm
    obtain ⟨⟨⟨y1, ⟨y2x, y2⟩, y3, y4, y5, y6, y7, y8, y9, y10⟩, hgs, hf196, hgd, hinj, hsr⟩, z1, z2, z3, z4, z5, z6⟩ := hA
    obtain ⟨⟨v1, v2, v3, v4, v5, v6, v7, v8, v9⟩, hgr, vgd, vd, vcn, vno, von, voo⟩ := hW
    rw [z] at o0
    have hLC : LaC w (s 1) gt pl F cel fo (s 5) gm ch pn fg ct rw y2x _ _ _ _ _ := ⟨⟨n1, n5, hf196, o0, z1, o6, y2, y3, y5, y6, z2, y8, z4, h34, y10⟩, z3, fun g hg => by
      obtain ⟨q1, q2, q3, c, q4, q5, q6, q7, _⟩ := hgd g hg
      have ec : c = cel g := (nI_eq (by omega) (by have := (hcel g hg).2; omega)).mp (q5.symm.trans (hcel g hg).1)
      subst ec
      exact ⟨q5, q4, q6, q7, q2, q3⟩⟩
    have hLM : LaM w (s 1) gt pl (s 5) gr so kp lr x0 x1 x2 x5 x7 (nI Pb) (nI P) := ⟨⟨n1, n5, h45, v6, v7, h76, h77⟩, hgr, fun g hg => (hP.2.1 g hg).2.1, fun g p hg hp => ⟨fun z => ?_, fun z => ?_⟩, fun o ho => ?_⟩
    · by_cases ha : a = -1 ∧ isNet (s 5) b
      · obtain ⟨rfl, hb⟩ := ha
        obtain ⟨bl, be⟩ := hb.lt (by omega)
        generalize b.toNatClampNeg = o at bl be
        subst be
        refine ⟨e0, _, c_C_latches_out hLC bl, fun r w2 h2 => ?_⟩
        obtain ⟨rfl, rfl⟩ := h2
        refine ⟨e8, _, _, rfl, c_M_latches_out hLM bl, fun r2 w3 h3 => ⟨h3.1.trans ?_, h3.2 ▸ hI⟩⟩
        rw [(hkp.2 o bl).1, (hlr.2 o bl).1, (z5 (fo + o) (by omega)).1, (hro (fo + o) (by omega)).1]
      · by_cases hb : ∃ g p, g < s 1 ∧ gt g ∧ p < pl g ∧ a = nI g ∧ b = nI p
        · obtain ⟨g, p, gl, gg, hp, rfl, rfl⟩ := hb
          have h4 := (hP.2.1 g gg).2.1
          have hl := hP.lt gg hp
          refine ⟨e0, _, c_C_latches_pin hLC gl gg hp, fun r w2 h2 => ?_⟩
          obtain ⟨rfl, rfl⟩ := h2
          refine ⟨e8, _, _, rfl, c_M_latches_pin hLM gl gg hp (by omega), fun r2 w3 h3 => ⟨h3.1.trans ?_, h3.2 ▸ hI⟩⟩
          rw [(hkp.1 g p gg hp).1, (hlr.1 g p gg hp).1, (z5 (F g + p) (by omega)).1, (hro (F g + p) (by omega)).1]
        · have k1 : a = -1 → ¬ isNet (s 5) b := fun e y => ha ⟨e, y⟩
          have k2 : ∀ g, g < s 1 → gt g → a = nI g → ¬ isNet (pl g) b := fun g gl gg e y => hb ⟨g, _, gl, gg, (y.lt (by have := (hP.2.1 g gg).2.1; omega)).1, e, (y.lt (by have := (hP.2.1 g gg).2.1; omega)).2⟩
          refine ⟨e0, _, c_C_latches_no hLC a b k1 k2, fun r w2 h2 => ?_⟩
          obtain ⟨rfl, rfl⟩ := h2
          exact ⟨e8, _, _, rfl, c_M_latches_no hLM a b k1 k2, fun r2 w3 h3 => ⟨h3.1, h3.2 ▸ hI⟩⟩
    · exact ⟨_, by have := (vcn g p hg z).2.2.2.1; omega, (vcn g p hg z).1⟩
    · have := (vgd g hg).1
      exact vno _ (by omega) (by rw [show (4 * g + p) / 4 = g by omega, show (4 * g + p) % 4 = p by omega]; exact fun y => z y.2)
    · exact ⟨_, by have := (von o ho).2.2.2.1; omega, (von o ho).1⟩
