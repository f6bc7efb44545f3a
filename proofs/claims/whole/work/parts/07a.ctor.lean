/-! The constructors. Printed by gen_ctor.py. -/
theorem cx_cs1 {d mc ms a : Nat} {as : List Value} {w : cx_W} {n c z : Nat} {k : cx_Q} {Q : Option Value → cx_W → Prop} (d2 ce sl : Nat) (hr : d2 + 1 ≤ d ∧ 8 + (cx_n (cx_m a) + 11) + 40 * d2 ≤ 40 * d ∧ c + ce ≤ mc ∧ z + sl ≤ ms) (h : cx_MC (cx_m a) d2 ce sl as w n Q) (hk : ∀ r w2, Q r w2 → k r w2 (n + ce, c + ce, z + sl)) : cx_CS d mc ms a as w (n, c, z) k := ⟨d2, ce, sl, Q, hr, h, hk⟩
abbrev ai (n : Nat) (f : Nat → Int32) : cx_E := .inl (0, n, .inl f)
abbrev al (n : Nat) (f : Nat → Int64) : cx_E := .inl (1, n, .inr f)
abbrev az (n : Nat) (f : Nat → Int32) : cx_E := .inl (2, n, .inl f)
abbrev zi : Nat → Int32 := fun _ => 0
abbrev zl : Nat → Int64 := fun _ => 0
theorem nw0 (n : Nat) : cx_new 0 n = ai n zi := rfl
theorem nw1 (n : Nat) : cx_new 1 n = al n zl := rfl
theorem nw2 (n : Nat) : cx_new 2 n = az n zi := rfl
theorem tn_3 : Int32.toNatClampNeg 3 = 3 := by decide
theorem tm_3 : ((3 : Int32) < 0) = False := by decide
theorem tn_4 : Int32.toNatClampNeg 4 = 4 := by decide
theorem tm_4 : ((4 : Int32) < 0) = False := by decide
theorem tn_6 : Int32.toNatClampNeg 6 = 6 := by decide
theorem tm_6 : ((6 : Int32) < 0) = False := by decide
theorem tn_8 : Int32.toNatClampNeg 8 = 8 := by decide
theorem tm_8 : ((8 : Int32) < 0) = False := by decide
theorem tn_40 : Int32.toNatClampNeg 40 = 40 := by decide
theorem tm_40 : ((40 : Int32) < 0) = False := by decide
theorem tn_48 : Int32.toNatClampNeg 48 = 48 := by decide
theorem tm_48 : ((48 : Int32) < 0) = False := by decide
theorem tn_192 : Int32.toNatClampNeg 192 = 192 := by decide
theorem tm_192 : ((192 : Int32) < 0) = False := by decide
theorem tn_196 : Int32.toNatClampNeg 196 = 196 := by decide
theorem tm_196 : ((196 : Int32) < 0) = False := by decide
theorem tn_2304 : Int32.toNatClampNeg 2304 = 2304 := by decide
theorem tm_2304 : ((2304 : Int32) < 0) = False := by decide
def CT := (And.intro (And.intro (And.intro (And.intro nw0 nw1) (And.intro nw2 (And.intro tn_3 tn_4))) (And.intro (And.intro tn_6 tn_8) (And.intro tn_40 (And.intro tn_48 tn_192)))) (And.intro (And.intro (And.intro tn_196 tn_2304) (And.intro tm_3 (And.intro tm_4 tm_6))) (And.intro (And.intro tm_8 (And.intro tm_40 tm_48)) (And.intro tm_192 (And.intro tm_196 tm_2304)))))
abbrev oGr (x0 : Int32) : cx_E := .inr (1, [.ref 2, .ref 3, .ref 4, .ref 5, .int x0])
set_option maxHeartbeats 8000000 in
set_option maxRecDepth 100000 in
theorem c_Gr_init {w : cx_W} (h1 : w 1 = .inr (1, [.null, .null, .null, .null, .int 0])) : cx_MC mGr_init 1 4 192 [.ref 1] w 2 (fun r w2 => r = none ∧ (∀ k, k < 1 → w2 k = w k) ∧ w2 1 = oGr 0 ∧ w2 2 = ai 48 zi ∧ w2 3 = ai 48 zi ∧ w2 4 = ai 48 zi ∧ w2 5 = ai 48 zi) := by
  refine cx_met 260 mGr_init_ok rfl ?_
  show cx_vc 260 none mGr_init 1 4 192 _ _ 0 [some (.ref 1)] [] w (2, 0, 0)
  simp only [BmGr_init, h1, EV, EW, CT, ev_o, ev_is, ev_gd, List.length_cons, List.length_nil, Nat.reduceLT, Nat.reduceAdd, Nat.reduceEqDiff, Nat.reduceLeDiff, Nat.reduceMul, reduceIte, true_and, and_true, true_or, or_true, not_false_eq_true]
  intro k hk
  simp (disch := omega) only [if_neg]
abbrev oCi (x0 x1 x2 x3 x4 x5 : Int32) : cx_E := .inr (2, [.ref 1, .ref 7, .ref 8, .ref 9, .ref 10, .ref 11, .ref 12, .int x0, .int x1, .int x2, .int x3, .int x4, .int x5])
set_option maxHeartbeats 8000000 in
set_option maxRecDepth 100000 in
theorem c_Ci_init {w : cx_W} (h1 : w 6 = .inr (2, [.null, .null, .null, .null, .null, .null, .null, .int 0, .int 0, .int 0, .int 0, .int 0, .int 0])) : cx_MC mCi_init 1 6 141 [.ref 6, .ref 1] w 7 (fun r w2 => r = none ∧ (∀ k, k < 6 → w2 k = w k) ∧ w2 6 = oCi 0 0 0 0 0 0 ∧ w2 7 = ai 40 zi ∧ w2 8 = ai 40 zi ∧ w2 9 = ai 6 zi ∧ w2 10 = ai 4 zi ∧ w2 11 = ai 3 zi ∧ w2 12 = ai 48 zi) := by
  refine cx_met 260 mCi_init_ok rfl ?_
  show cx_vc 260 none mCi_init 1 6 141 _ _ 0 [some (.ref 6), some (.ref 1)] [] w (7, 0, 0)
  simp only [BmCi_init, h1, EV, EW, CT, ev_o, ev_is, ev_gd, List.length_cons, List.length_nil, Nat.reduceLT, Nat.reduceAdd, Nat.reduceEqDiff, Nat.reduceLeDiff, Nat.reduceMul, reduceIte, true_and, and_true, true_or, or_true, not_false_eq_true]
  intro k hk
  simp (disch := omega) only [if_neg]
abbrev oLi (x0 : Int32) : cx_E := .inr (3, [.ref 14, .ref 15, .ref 16, .ref 17, .ref 18, .ref 19, .int x0])
set_option maxHeartbeats 8000000 in
set_option maxRecDepth 100000 in
theorem c_Li_init {w : cx_W} (h1 : w 13 = .inr (3, [.null, .null, .null, .null, .null, .null, .int 0])) : cx_MC mLi_init 1 6 48 [.ref 13] w 14 (fun r w2 => r = none ∧ (∀ k, k < 13 → w2 k = w k) ∧ w2 13 = oLi 0 ∧ w2 14 = ai 8 zi ∧ w2 15 = ai 8 zi ∧ w2 16 = ai 8 zi ∧ w2 17 = ai 8 zi ∧ w2 18 = ai 8 zi ∧ w2 19 = ai 8 zi) := by
  refine cx_met 260 mLi_init_ok rfl ?_
  show cx_vc 260 none mLi_init 1 6 48 _ _ 0 [some (.ref 13)] [] w (14, 0, 0)
  simp only [BmLi_init, h1, EV, EW, CT, ev_o, ev_is, ev_gd, List.length_cons, List.length_nil, Nat.reduceLT, Nat.reduceAdd, Nat.reduceEqDiff, Nat.reduceLeDiff, Nat.reduceMul, reduceIte, true_and, and_true, true_or, or_true, not_false_eq_true]
  intro k hk
  simp (disch := omega) only [if_neg]
abbrev oCo (x0 : Int32) : cx_E := .inr (4, [.ref 1, .ref 6, .ref 13, .ref 21, .ref 22, .ref 23, .ref 24, .ref 25, .ref 26, .ref 27, .ref 28, .ref 29, .int x0])
set_option maxHeartbeats 8000000 in
set_option maxRecDepth 100000 in
theorem c_Co_init {w : cx_W} (h1 : w 20 = .inr (4, [.null, .null, .null, .null, .null, .null, .null, .null, .null, .null, .null, .null, .int 0])) : cx_MC mCo_init 1 9 492 [.ref 20, .ref 1, .ref 6, .ref 13] w 21 (fun r w2 => r = none ∧ (∀ k, k < 20 → w2 k = w k) ∧ w2 20 = oCo 0 ∧ w2 21 = az 48 zi ∧ w2 22 = ai 48 zi ∧ w2 23 = ai 48 zi ∧ w2 24 = ai 48 zi ∧ w2 25 = ai 192 zi ∧ w2 26 = ai 4 zi ∧ w2 27 = ai 8 zi ∧ w2 28 = az 48 zi ∧ w2 29 = ai 48 zi) := by
  refine cx_met 260 mCo_init_ok rfl ?_
  show cx_vc 260 none mCo_init 1 9 492 _ _ 0 [some (.ref 20), some (.ref 1), some (.ref 6), some (.ref 13)] [] w (21, 0, 0)
  simp only [BmCo_init, h1, EV, EW, CT, ev_o, ev_is, ev_gd, List.length_cons, List.length_nil, Nat.reduceLT, Nat.reduceAdd, Nat.reduceEqDiff, Nat.reduceLeDiff, Nat.reduceMul, reduceIte, true_and, and_true, true_or, or_true, not_false_eq_true]
  intro k hk
  simp (disch := omega) only [if_neg]
abbrev oCn (x0 x1 : Int32) : cx_E := .inr (5, [.ref 1, .ref 6, .ref 20, .ref 31, .ref 32, .ref 33, .ref 34, .ref 35, .int x0, .int x1])
set_option maxHeartbeats 8000000 in
set_option maxRecDepth 100000 in
theorem c_Cn_init {w : cx_W} (h1 : w 30 = .inr (5, [.null, .null, .null, .null, .null, .null, .null, .null, .int 0, .int 0])) : cx_MC mCn_init 1 5 832 [.ref 30, .ref 1, .ref 6, .ref 20] w 31 (fun r w2 => r = none ∧ (∀ k, k < 30 → w2 k = w k) ∧ w2 30 = oCn 0 0 ∧ w2 31 = ai 196 zi ∧ w2 32 = ai 196 zi ∧ w2 33 = ai 196 zi ∧ w2 34 = al 196 zl ∧ w2 35 = ai 48 zi) := by
  refine cx_met 260 mCn_init_ok rfl ?_
  show cx_vc 260 none mCn_init 1 5 832 _ _ 0 [some (.ref 30), some (.ref 1), some (.ref 6), some (.ref 20)] [] w (31, 0, 0)
  simp only [BmCn_init, h1, EV, EW, CT, ev_o, ev_is, ev_gd, List.length_cons, List.length_nil, Nat.reduceLT, Nat.reduceAdd, Nat.reduceEqDiff, Nat.reduceLeDiff, Nat.reduceMul, reduceIte, true_and, and_true, true_or, or_true, not_false_eq_true]
  intro k hk
  simp (disch := omega) only [if_neg]
abbrev oRe (x0 x1 : Int32) : cx_E := .inr (6, [.ref 20, .ref 30, .ref 37, .ref 38, .ref 39, .int x0, .int x1])
set_option maxHeartbeats 8000000 in
set_option maxRecDepth 100000 in
theorem c_Re_init {w : cx_W} (h1 : w 36 = .inr (6, [.null, .null, .null, .null, .null, .int 0, .int 0])) : cx_MC mRe_init 1 3 144 [.ref 36, .ref 20, .ref 30] w 37 (fun r w2 => r = none ∧ (∀ k, k < 36 → w2 k = w k) ∧ w2 36 = oRe 0 0 ∧ w2 37 = ai 48 zi ∧ w2 38 = ai 48 zi ∧ w2 39 = ai 48 zi) := by
  refine cx_met 260 mRe_init_ok rfl ?_
  show cx_vc 260 none mRe_init 1 3 144 _ _ 0 [some (.ref 36), some (.ref 20), some (.ref 30)] [] w (37, 0, 0)
  simp only [BmRe_init, h1, EV, EW, CT, ev_o, ev_is, ev_gd, List.length_cons, List.length_nil, Nat.reduceLT, Nat.reduceAdd, Nat.reduceEqDiff, Nat.reduceLeDiff, Nat.reduceMul, reduceIte, true_and, and_true, true_or, or_true, not_false_eq_true]
  intro k hk
  simp (disch := omega) only [if_neg]
abbrev oMa : cx_E := .inr (7, [.ref 1, .ref 6, .ref 20, .ref 30, .ref 41, .ref 42, .ref 43, .ref 44])
set_option maxHeartbeats 8000000 in
set_option maxRecDepth 100000 in
theorem c_Ma_init {w : cx_W} (h1 : w 40 = .inr (7, [.null, .null, .null, .null, .null, .null, .null, .null])) : cx_MC mMa_init 1 4 340 [.ref 40, .ref 1, .ref 6, .ref 20, .ref 30] w 41 (fun r w2 => r = none ∧ (∀ k, k < 40 → w2 k = w k) ∧ w2 40 = oMa ∧ w2 41 = al 196 zl ∧ w2 42 = ai 48 zi ∧ w2 43 = az 48 zi ∧ w2 44 = ai 48 zi) := by
  refine cx_met 260 mMa_init_ok rfl ?_
  show cx_vc 260 none mMa_init 1 4 340 _ _ 0 [some (.ref 40), some (.ref 1), some (.ref 6), some (.ref 20), some (.ref 30)] [] w (41, 0, 0)
  simp only [BmMa_init, h1, EV, EW, CT, ev_o, ev_is, ev_gd, List.length_cons, List.length_nil, Nat.reduceLT, Nat.reduceAdd, Nat.reduceEqDiff, Nat.reduceLeDiff, Nat.reduceMul, reduceIte, true_and, and_true, true_or, or_true, not_false_eq_true]
  intro k hk
  simp (disch := omega) only [if_neg]
abbrev oM (x0 x1 x2 x3 x4 x5 x6 x7 x8 x9 : Int32) : cx_E := .inr (8, [.int x0, .ref 46, .ref 47, .ref 48, .ref 49, .ref 50, .ref 51, .ref 52, .ref 53, .ref 54, .ref 55, .int x1, .int x2, .int x3, .ref 56, .ref 57, .ref 58, .ref 59, .int x4, .ref 60, .int x5, .ref 61, .ref 62, .ref 63, .int x6, .ref 64, .ref 65, .ref 66, .ref 67, .ref 68, .ref 69, .ref 70, .ref 71, .ref 72, .int x7, .ref 73, .ref 74, .ref 75, .ref 76, .ref 77, .ref 78, .ref 79, .ref 80, .ref 81, .int x8, .int x9, .ref 82, .ref 83, .ref 84, .ref 85, .ref 86])
set_option maxHeartbeats 8000000 in
set_option maxRecDepth 100000 in
theorem c_M_init {w : cx_W} (h1 : w 45 = .inr (8, [.int 0, .null, .null, .null, .null, .null, .null, .null, .null, .null, .null, .int 0, .int 0, .int 0, .null, .null, .null, .null, .int 0, .null, .int 0, .null, .null, .null, .int 0, .null, .null, .null, .null, .null, .null, .null, .null, .null, .int 0, .null, .null, .null, .null, .null, .null, .null, .null, .null, .int 0, .int 0, .null, .null, .null, .null, .null])) : cx_MC mM_init 1 41 9256 [.ref 45] w 46 (fun r w2 => r = none ∧ (∀ k, k < 45 → w2 k = w k) ∧ w2 45 = oM 0 0 0 0 0 0 0 0 0 0 ∧ w2 46 = ai 40 zi ∧ w2 47 = ai 40 zi ∧ w2 48 = ai 40 zi ∧ w2 49 = ai 40 zi ∧ w2 50 = ai 40 zi ∧ w2 51 = ai 40 zi ∧ w2 52 = ai 40 zi ∧ w2 53 = ai 40 zi ∧ w2 54 = ai 40 zi ∧ w2 55 = ai 40 zi ∧ w2 56 = ai 48 zi ∧ w2 57 = ai 48 zi ∧ w2 58 = ai 48 zi ∧ w2 59 = ai 48 zi ∧ w2 60 = ai 4 zi ∧ w2 61 = ai 8 zi ∧ w2 62 = ai 8 zi ∧ w2 63 = ai 8 zi ∧ w2 64 = az 48 zi ∧ w2 65 = az 48 zi ∧ w2 66 = ai 48 zi ∧ w2 67 = ai 48 zi ∧ w2 68 = ai 48 zi ∧ w2 69 = ai 48 zi ∧ w2 70 = az 48 zi ∧ w2 71 = ai 8 zi ∧ w2 72 = ai 4 zi ∧ w2 73 = ai 196 zi ∧ w2 74 = ai 196 zi ∧ w2 75 = al 196 zl ∧ w2 76 = ai 196 zi ∧ w2 77 = al 196 zl ∧ w2 78 = al 196 zl ∧ w2 79 = ai 2304 zi ∧ w2 80 = ai 2304 zi ∧ w2 81 = ai 48 zi ∧ w2 82 = ai 2304 zi ∧ w2 83 = ai 48 zi ∧ w2 84 = az 48 zi ∧ w2 85 = ai 48 zi ∧ w2 86 = ai 8 zi) := by
  refine cx_met 260 mM_init_ok rfl ?_
  show cx_vc 260 none mM_init 1 41 9256 _ _ 0 [some (.ref 45)] [] w (46, 0, 0)
  simp only [BmM_init, h1, EV, EW, CT, ev_o, ev_is, ev_gd, List.length_cons, List.length_nil, Nat.reduceLT, Nat.reduceAdd, Nat.reduceEqDiff, Nat.reduceLeDiff, Nat.reduceMul, reduceIte, true_and, and_true, true_or, or_true, not_false_eq_true]
  intro k hk
  simp (disch := omega) only [if_neg]
