/-! The patterns: what both sides answer of isPattern. Own work (nx_and: pasted out of the kit's bits). -/
theorem nx_and (a b : Nat) : nI a &&& nI b = nI (a &&& b) := by
  apply Int32.toBitVec_inj.mp
  rw [Int32.toBitVec_and]
  show BitVec.ofNat 32 a &&& BitVec.ofNat 32 b = BitVec.ofNat 32 (a &&& b)
  apply BitVec.eq_of_toNat_eq
  simp [BitVec.toNat_and, Nat.and_mod_two_pow]
theorem an3 (d : Nat) : nI d &&& 3 = nI (d % 4) := by
  have h := nx_and d 3
  rw [Nat.and_two_pow_sub_one_eq_mod d 2] at h
  exact h
theorem sb2 {x : Nat} (h : 2 ≤ x) : nI x - 2 = nI (x - 2) := by
  obtain ⟨y, rfl⟩ : ∃ y, x = y + 2 := ⟨x - 2, by omega⟩
  rw [show nI (y + 2) = nI y + 2 from (nI_add y 2).symm, Int32.add_sub_cancel]
  rfl
theorem sr2 {d : Nat} (h : d < 2 ^ 31) : nI d >>> (2 &&& 31) = nI (d / 4) := pk_shrN h _ 2 (by decide)
def pt : Nat → Nat → Nat → Bool
  | 0, _, _ => false
  | f + 1, d, o => if d = 0 then o == 0 else if d % 4 = 0 ∨ o = 0 then false else pt f (d / 4) (o + d % 4 - 2)
def pm : Nat → Nat → Nat → Nat → Bool
  | 0, _, _, _ => false
  | f + 1, d, o, g => if d = 0 then o == 0 && decide (g ≤ 7) else if d % 4 = 0 ∨ o = 0 then false else pm f (d / 4) (o + d % 4 - 2) (g + 1)
theorem pm_pt : ∀ (f d o g : Nat), pm f d o g = (pt f d o && decide (g ≤ 7 ∧ d < 4 ^ (7 - g)))
  | 0, d, o, g => rfl
  | f + 1, d, o, g => by
    unfold pm pt
    by_cases hd : d = 0
    · subst hd
      have : 0 < 4 ^ (7 - g) := Nat.pow_pos (by decide)
      simp [this]
    · rw [if_neg hd, if_neg hd]
      by_cases h2 : d % 4 = 0 ∨ o = 0
      · rw [if_pos h2, if_pos h2]; rfl
      · rw [if_neg h2, if_neg h2, pm_pt f]
        congr 1
        apply decide_eq_decide.mpr
        by_cases hg : g ≤ 6
        · have e : 7 - g = (7 - (g + 1)) + 1 := by omega
          rw [e, Nat.pow_succ]
          constructor
          · rintro ⟨a, b⟩; exact ⟨by omega, by omega⟩
          · rintro ⟨a, b⟩; exact ⟨by omega, by omega⟩
        · constructor
          · rintro ⟨a, b⟩; omega
          · rintro ⟨a, b⟩
            have : 7 - g = 0 := by omega
            rw [this] at b
            omega
theorem z0 {d : Nat} (h : d < 2 ^ 31) : (nI d = 0) = (d = 0) := by
  have h1 := nI_eq h (show 0 < 2 ^ 31 by decide)
  rw [nI_0] at h1
  exact propext h1
theorem g7 {g : Nat} (h : g < 2 ^ 31) : ((7 : Int32) < nI g) = (7 < g) := propext (nI_ltI (show 7 < 2 ^ 31 by decide) h)
theorem pm_d {f o g : Nat} : pm (f + 1) 0 o g = (o == 0 && decide (g ≤ 7)) := rfl
theorem pm_s {f d o g : Nat} (h : ¬ d = 0) : pm (f + 1) d o g = if d % 4 = 0 ∨ o = 0 then false else pm f (d / 4) (o + d % 4 - 2) (g + 1) := by
  show (if d = 0 then _ else _) = _
  rw [if_neg h]
set_option maxHeartbeats 4000000 in
theorem pat_loop_M {w : cx_W} {p : Int32} {dd : Nat} : ∀ (f d o g : Nat), d < 4 ^ f → d < 2 ^ 31 → g ≤ 17 - f → f ≤ 16 → o ≤ g + 1 →
    cx_OK none mM_isPattern dd 0 0 (fun r w2 _ => r = some (.int (if pm (f + 1) d o g = true then 1 else 0)) ∧ w2 = w) 19 [some (.int p), some (.int (nI o)), some (.int (nI g)), some (.int (nI d))] [] w (87, 0, 0) := by
  intro f
  induction f with
  | zero =>
    intro d o g hd hd2 hf hf2 ho
    refine cx_run 40 mM_isPattern_mo ?_
    have h0 : d = 0 := by simpa using hd
    subst h0
    simp only [BmM_isPattern, z0 (d := 0) (by decide), z0 (d := o) (by omega), g7 (g := g) (by omega), pm_d, not_true_eq_false, false_imp_iff, true_imp_iff, EV, EW, ev_o, ev_is, ev_gd, Nat.reduceLT, Nat.reduceAdd, Nat.reduceEqDiff, Nat.reduceLeDiff, reduceIte, true_and, and_true, true_or, or_true]
    refine ⟨fun a => ⟨fun b => ?_, fun b => ?_⟩, fun a => ?_⟩
    · simp [a, show ¬ g ≤ 7 by omega]
    · simp [a, show g ≤ 7 by omega]
    · simp [a]
  | succ f ih =>
    intro d o g hd hd2 hf hf2 ho
    refine cx_run 40 mM_isPattern_mo ?_
    simp only [BmM_isPattern, z0 hd2, z0 (d := o) (by omega), g7 (g := g) (by omega), an3, z0 (d := d % 4) (by omega), sr2 hd2, nI_1, nI_add, EV, EW, ev_o, ev_is, ev_gd, Nat.reduceLT, Nat.reduceAdd, Nat.reduceEqDiff, Nat.reduceLeDiff, reduceIte, true_and, and_true, true_or, or_true]
    refine ⟨fun h0 => ?_, fun h0 => ⟨fun a => ?_, fun a => ⟨fun b => ?_, fun b => ?_⟩⟩⟩
    · subst h0
      rw [pm_d]
      refine ⟨fun a => ⟨fun b => ?_, fun b => ?_⟩, fun a => ?_⟩
      · simp [a, show ¬ g ≤ 7 by omega]
      · simp [a, show g ≤ 7 by omega]
      · simp [a]
    · rw [pm_s h0, if_pos (Or.inl a)]; rfl
    · rw [pm_s h0, if_pos (Or.inr b)]; rfl
    · have e : pm (f + 1 + 1) d o g = pm (f + 1) (d / 4) (o + d % 4 - 2) (g + 1) := by rw [pm_s h0, if_neg (fun z : d % 4 = 0 ∨ o = 0 => z.elim a b)]
      rw [e, sb2 (by omega)]
      refine ih (d / 4) (o + d % 4 - 2) (g + 1) ?_ (by omega) (by omega) (by omega) (by omega)
      rw [Nat.pow_succ] at hd
      omega
/-- what isPattern answers -/
def pat (p : Int32) : Bool := decide (0 < p.toInt ∧ p.toInt < 16384 ∧ ¬ p.toInt % 4 = 1) && pt 17 p.toInt.toNat 1
set_option maxHeartbeats 4000000 in
theorem c_M_isPattern {w : cx_W} (p : Int32) {dd : Nat} : cx_MC mM_isPattern dd 0 0 [.int p] w 87 (fun r w2 => r = some (.int (if pat p = true then 1 else 0)) ∧ w2 = w) := by
  refine cx_met 40 mM_isPattern_ok rfl ?_
  show cx_vc 40 none mM_isPattern dd 0 0 _ _ 0 [some (.int p), none, none, none] [] w (87, 0, 0)
  by_cases hp : p ≤ 0
  · have hp2 : p.toInt ≤ 0 := by have := Int32.le_iff_toInt_le.mp hp; simpa using this
    have hf : pat p = false := by
      unfold pat
      simp [show ¬ 0 < p.toInt by omega]
    simp only [BmM_isPattern, hp, hf, not_true_eq_false, false_imp_iff, true_imp_iff, Bool.false_eq_true, EV, EW, ev_o, ev_is, ev_gd, Nat.reduceLT, Nat.reduceAdd, Nat.reduceEqDiff, Nat.reduceLeDiff, reduceIte, true_and, and_true, true_or, or_true]
  · obtain ⟨q, hq, rfl⟩ : ∃ q : Nat, q < 2 ^ 31 ∧ p = nI q := nI_of (fun h => hp (Int32.le_of_lt h))
    have hq0 : 0 < q := by
      rcases Nat.eq_zero_or_pos q with h | h
      · subst h; exact absurd (by rw [nI_0]; decide) hp
      · exact h
    simp only [BmM_isPattern, hp, an3, not_false_eq_true, false_imp_iff, true_imp_iff, EV, EW, ev_o, ev_is, ev_gd, Nat.reduceLT, Nat.reduceAdd, Nat.reduceEqDiff, Nat.reduceLeDiff, reduceIte, true_and, and_true, true_or, or_true]
    have h1 : (nI (q % 4) = 1) = (q % 4 = 1) := propext (nI_eq (b := 1) (by omega) (by decide))
    rw [h1]
    have hti := nI_toInt hq
    refine ⟨fun a => ?_, fun a => ?_⟩
    · have hf : pat (nI q) = false := by
        unfold pat
        simp [hti, show (q : Int) % 4 = 1 by omega]
      rw [hf]; rfl
    · have key : pat (nI q) = pm 17 q 1 0 := by
        unfold pat
        rw [pm_pt, hti, Bool.and_comm]
        congr 1
        apply decide_eq_decide.mpr
        constructor
        · rintro ⟨a1, a2, a3⟩; exact ⟨by omega, by show q < 4 ^ 7; omega⟩
        · rintro ⟨a1, a2⟩
          have a3 : q < 16384 := a2
          exact ⟨by omega, by omega, by omega⟩
      rw [key]
      exact pat_loop_M 16 q 1 0 (by show q < 4294967296; omega) hq (by omega) (by omega) (by omega)
