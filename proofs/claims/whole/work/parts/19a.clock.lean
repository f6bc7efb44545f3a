/-! Clocking, the given side. Own work. -/
theorem one_sub {b : Bool} : (1 : Int32) - nI b.toNat = nI (!b).toNat := by cases b <;> decide
theorem one_sub2 {a b : Bool} : (1 : Int32) - (nI a.toNat &&& nI b.toNat) = nI (!(a && b)).toNat := by cases a <;> cases b <;> decide
theorem pb_or {f : Nat → Bool} {k : Nat} (hk : k < 31) : nI (pb f k) ||| nI (f k).toNat <<< (nI k &&& 31) = nI (pb f (k + 1)) := by
  have h := pb_lt f k
  have hp : 2 ^ k ≤ 2 ^ 30 := Nat.pow_le_pow_right (by decide) (by omega)
  rw [pb]
  cases e : f k
  · rw [show nI (false).toNat <<< (nI k &&& 31) = nI (0 * 2 ^ k) from shlN (a := 0) (by omega) (by rw [Nat.zero_mul]; decide), or_add' _ _ h]
    simp
  · rw [show nI (true).toNat <<< (nI k &&& 31) = nI (1 * 2 ^ k) from shlN (a := 1) (by omega) (by rw [Nat.one_mul]; omega), or_add' _ _ h]
    simp
set_option maxHeartbeats 4000000 in
theorem c_Ci_nodeValue {w : cx_W} {G : Gr} {nc ic lc oc m C : Nat} {ib inp : Int32} {nn nl dv on od vs : Nat → Int32} {v : Nat → Bool} {dd : Nat} (hG : GW w G) (h5 : w 5 = ai 48 od) (hC : CW w nc ic lc oc ib (nI C) nn nl dv on) (h12 : w 12 = ai 48 vs) (hn : G.1 ≤ 48) (hm : m < G.1) (hW : WFG 2 3 G) (hCb : C < 2 ^ 31)
    (hk : G.2.1 m = 0 ∨ G.2.1 m = 1 ∨ G.2.1 m = 2 ∨ G.2.1 m = 3) (hv : ∀ j, j < m → vs j = nI (v j).toNat) (hl0 : G.2.1 m = 0 → ∃ k : Nat, od m = nI k ∧ nI (v m).toNat = inp >>> (nI k &&& 31) &&& 1) (hl1 : G.2.1 m = 1 → ∃ k : Nat, k < 6 ∧ od m = nI k ∧ v m = C.testBit k) (hV : Vl 2 3 G v) :
    cx_MC mCi_nodeValue (dd + 1) 0 0 [.ref 6, .int (nI m), .int inp] w 87 (fun r w2 => r = some (.int (nI (v m).toNat)) ∧ w2 = w) := by
  obtain ⟨g1, g2, g3, g4⟩ := hG
  obtain ⟨h6, h7, h8, h9, h10⟩ := hC
  have v1 : vp_in (nI m) 48 := nI_in (by omega) (by decide)
  refine cx_met 100 mCi_nodeValue_ok rfl ?_
  show cx_vc 100 none mCi_nodeValue (dd + 1) 0 0 _ _ 0 [some (.ref 6), some (.int (nI m)), some (.int inp), none] [] w (87, 0, 0)
  rcases hk with k | k | k | k
  · obtain ⟨j, e1, e2⟩ := hl0 k
    simp (decide := true) only [BmCi_nodeValue, BSC, g1, g2, h5, h6, v1, nI_clamp (n := m) (by omega), k, e1, e2, EV, EW, CT, ev_o, ev_is, ev_gd, List.length_cons, List.length_nil, Nat.reduceLT, Nat.reduceAdd, Nat.reduceEqDiff, Nat.reduceLeDiff, Int32.reduceLT, Int32.reduceLE, reduceIte, true_and, and_true, true_or, or_true, not_true_eq_false, not_false_eq_true, false_imp_iff, true_imp_iff, implies_true]
  · obtain ⟨j, e0, e1, e2⟩ := hl1 k
    have e3 : nI C >>> (nI j &&& 31) &&& 1 = nI (v m).toNat := by rw [bitN hCb (by omega), e2, tb_bool]
    simp (decide := true) only [BmCi_nodeValue, BSC, g1, g2, h5, h6, v1, nI_clamp (n := m) (by omega), k, e1, e3, EV, EW, CT, ev_o, ev_is, ev_gd, List.length_cons, List.length_nil, Nat.reduceLT, Nat.reduceAdd, Nat.reduceEqDiff, Nat.reduceLeDiff, Int32.reduceLT, Int32.reduceLE, reduceIte, true_and, and_true, true_or, or_true, not_true_eq_false, not_false_eq_true, false_imp_iff, true_imp_iff, implies_true]
  · obtain ⟨a, a1, a2⟩ := (hW.2 m hm).1 k
    have e := (hV m hm).1 k
    rw [a2, nI_clamp (by omega)] at e
    have v2 : vp_in (nI a) 48 := nI_in (by omega) (by decide)
    have e3 : (1 : Int32) - vs a = nI (v m).toNat := by rw [hv a a1, one_sub, e]
    simp (decide := true) only [BmCi_nodeValue, BSC, g1, g2, g3, h5, h6, h12, v1, v2, nI_clamp (n := m) (by omega), nI_clamp (n := a) (by omega), k, a2, e3, EV, EW, CT, ev_o, ev_is, ev_gd, List.length_cons, List.length_nil, Nat.reduceLT, Nat.reduceAdd, Nat.reduceEqDiff, Nat.reduceLeDiff, Int32.reduceLT, Int32.reduceLE, reduceIte, true_and, and_true, true_or, or_true, not_true_eq_false, not_false_eq_true, false_imp_iff, true_imp_iff, implies_true]
  · obtain ⟨⟨a, a1, a2⟩, ⟨b, b1, b2⟩⟩ := (hW.2 m hm).2 k
    have e := (hV m hm).2 k
    rw [a2, b2, nI_clamp (by omega), nI_clamp (by omega)] at e
    have v2 : vp_in (nI a) 48 := nI_in (by omega) (by decide)
    have v3 : vp_in (nI b) 48 := nI_in (by omega) (by decide)
    have e3 : (1 : Int32) - (vs a &&& vs b) = nI (v m).toNat := by rw [hv a a1, hv b b1, one_sub2, e]
    simp (decide := true) only [BmCi_nodeValue, BSC, g1, g2, g3, g4, h5, h6, h12, v1, v2, v3, nI_clamp (n := m) (by omega), nI_clamp (n := a) (by omega), nI_clamp (n := b) (by omega), k, a2, b2, e3, EV, EW, CT, ev_o, ev_is, ev_gd, List.length_cons, List.length_nil, Nat.reduceLT, Nat.reduceAdd, Nat.reduceEqDiff, Nat.reduceLeDiff, Int32.reduceLT, Int32.reduceLE, reduceIte, true_and, and_true, true_or, or_true, not_true_eq_false, not_false_eq_true, false_imp_iff, true_imp_iff, implies_true]
