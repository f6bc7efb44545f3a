/-! What the two sides' rows say of drivers, outputs and latches. Own work. -/
theorem i32_nat (x : Int32) : x = nI x.toBitVec.toNat := by
  apply Int32.toBitVec_inj.mp
  show x.toBitVec = BitVec.ofNat 32 x.toBitVec.toNat
  rw [BitVec.ofNat_toNat, BitVec.setWidth_eq]
theorem i32_bit (x : Int32) : ∃ b : Bool, nI b.toNat = x &&& 1 := by
  rw [i32_nat x, an1]
  rcases Nat.mod_two_eq_zero_or_one x.toBitVec.toNat with h | h
  · exact ⟨false, by rw [h]; rfl⟩
  · exact ⟨true, by rw [h]; rfl⟩
theorem pb_bit {f : Nat → Bool} {k l : Nat} (hl : l < k) : pb f k / 2 ^ l % 2 = (f l).toNat := by
  induction k with
  | zero => omega
  | succ k ih =>
    rw [pb]
    by_cases e : l = k
    · subst e
      have h := pb_lt f l
      cases f l
      · simp only [Bool.false_eq_true, reduceIte, Nat.add_zero, Bool.toNat_false]
        rw [Nat.div_eq_of_lt h]
      · simp only [reduceIte, Bool.toNat_true]
        rw [Nat.add_div_right _ (Nat.two_pow_pos _), Nat.div_eq_of_lt h]
    · rw [← ih (by omega)]
      obtain ⟨d, hd⟩ : ∃ d, k = l + 1 + d := ⟨k - (l + 1), by omega⟩
      split
      · rw [show (2 : Nat) ^ k = 2 ^ l * (2 * 2 ^ d) by rw [hd, Nat.pow_add, Nat.pow_succ]; simp only [Nat.mul_comm, Nat.mul_left_comm, Nat.mul_assoc], Nat.add_mul_div_left _ _ (Nat.two_pow_pos l)]
        omega
      · rfl
def drvF (R : Nat → Nat → Int32) (l : Nat) : Nat := (R 7 (R 9 l).toNatClampNeg).toNatClampNeg
def olF (R : Nat → Nat → Int32) (m : Nat) : Nat := (R 5 m).toNatClampNeg
def ondF (R : Nat → Nat → Int32) (o : Nat) : Nat := (R 7 (R 10 o).toNatClampNeg).toNatClampNeg
def dnF (R : Nat → Nat → Int32) (i : Nat) : Nat := (R 47 (R 50 i).toNatClampNeg).toNatClampNeg
/-- the net of a number: its node -/
theorem Bd.node {R : Nat → Nat → Int32} {s : Nat → Nat} (hB : Bd R s) {j : Nat} (hj : j < s 2) : vp_in (nI j) 40 ∧ (nI j).toNatClampNeg = j ∧ R 7 j = nI (R 7 j).toNatClampNeg ∧ (R 7 j).toNatClampNeg < s 1 ∧ R 47 j = R 7 j := by
  have n2 := hB.1.2.1
  have n1 := hB.1.1
  obtain ⟨p1, ⟨m, m1, m2⟩, _⟩ := hB.2.2.1 j hj
  refine ⟨nI_in (by omega) (by decide), nI_clamp (by omega), ?_, ?_, p1.symm⟩
  · rw [m2, nI_clamp (by omega)]
  · rw [m2, nI_clamp (by omega)]; exact m1
/-- a latch's node: its net, its number -/
theorem Bd.latch {R : Nat → Nat → Int32} {s : Nat → Nat} (hB : Bd R s) {m : Nat} (hm : m < s 1) (h1 : R 2 m = 1) : ∃ i l : Nat, i < s 2 ∧ l < s 4 ∧ R 59 m = nI i ∧ R 7 i = nI m ∧ R 46 i = 1 ∧ R 8 i = nI l ∧ R 9 l = R 50 i ∧ R 5 m = nI l ∧ olF R m = l ∧ R 48 i = nI (s 7 / 2 ^ l % 2) ∧ R 49 i = nI (s 8 / 2 ^ l % 2) := by
  have n1 := hB.1.1
  have n4 := hB.1.2.2.2.1
  obtain ⟨i, i1, i2, i3, i4⟩ := hB.2.2.2.1 m hm (.inr h1)
  have e : R 46 i = 1 := i4.trans h1
  obtain ⟨_, ⟨l, l1, l2, l3, l4, l5, l6⟩, _, _⟩ := (hB.2.2.1 i i1).la e
  rw [i3, nI_clamp (by omega)] at l6
  exact ⟨i, l, i1, l1, i2, i3, e, l2, l3, l6, by unfold olF; rw [l6, nI_clamp (by omega)], l4, l5⟩
theorem Bd.undriven {R : Nat → Nat → Int32} {s : Nat → Nat} (hB : Bd R s) : (∃ l, l < s 4 ∧ R 9 l = -1) ↔ ∃ i, i < s 2 ∧ R 46 i = 1 ∧ R 50 i < 0 := by
  have n2 := hB.1.2.1
  constructor
  · rintro ⟨l, l1, l2⟩
    obtain ⟨⟨i, i1, i2, i3⟩, _⟩ := hB.2.2.2.2.1 l l1
    obtain ⟨_, ⟨l', q1, q2, q3, _⟩, _⟩ := (hB.2.2.1 i i1).la i2
    have n4 := hB.1.2.2.2.1
    have e : l' = l := (nI_eq (by omega) (by omega)).mp (q2.symm.trans i3)
    rw [e, l2] at q3
    exact ⟨i, i1, i2, by rw [← q3]; decide⟩
  · rintro ⟨i, i1, i2, i3⟩
    obtain ⟨_, ⟨l, q1, q2, q3, _⟩, _⟩ := (hB.2.2.1 i i1).la i2
    refine ⟨l, q1, ?_⟩
    rcases (hB.2.2.2.2.1 l q1).2 with z | ⟨j, j1, j2⟩
    · exact z
    · rw [← q3, j2] at i3
      exact absurd i3 (nI_pos (by omega))
/-- the drivers of both sides are the same nodes -/
theorem Bd.drv {R : Nat → Nat → Int32} {s : Nat → Nat} (hB : Bd R s) (hd : ¬ ∃ l, l < s 4 ∧ R 9 l = -1) :
    DrvC (grG R s) (s 4) (R 7) (R 9) (R 5) (drvF R) (olF R) ∧ DrvM (grH R s) (R 47) (R 50) (R 59) (nxC (drvF R) (olF R)) ∧ DrvN (grH R s) (s 2) (R 46) (R 50) (R 47) (dnF R) ∧
    (∀ i, i < s 2 → R 46 i = 1 → ∃ l, l < s 4 ∧ dnF R i = drvF R l) ∧ ∀ l, l < s 4 → ∃ i, i < s 2 ∧ R 46 i = 1 ∧ dnF R i = drvF R l ∧ (R 7 i).toNatClampNeg < s 1 ∧ R 2 (R 7 i).toNatClampNeg = 1 ∧ olF R (R 7 i).toNatClampNeg = l := by
  have n1 := hB.1.1
  have n2 := hB.1.2.1
  have n4 := hB.1.2.2.2.1
  have dl : ∀ l, l < s 4 → ∃ j, j < s 2 ∧ R 9 l = nI j ∧ vp_in (R 9 l) 40 ∧ R 7 (R 9 l).toNatClampNeg = nI (drvF R l) ∧ drvF R l < s 1 := fun l hl => by
    rcases (hB.2.2.2.2.1 l hl).2 with z | ⟨j, j1, j2⟩
    · exact absurd ⟨l, hl, z⟩ hd
    · obtain ⟨a1, a2, a3, a4, a5⟩ := hB.node j1
      unfold drvF
      rw [j2, a2]
      exact ⟨j, j1, rfl, a1, a3, a4⟩
  have dn : ∀ i l, i < s 2 → l < s 4 → R 9 l = R 50 i → dnF R i = drvF R l := fun i l hi hl e => by
    obtain ⟨j, j1, j2, _⟩ := dl l hl
    obtain ⟨a1, a2, a3, a4, a5⟩ := hB.node j1
    unfold dnF drvF
    rw [← e, j2, a2, a5]
  refine ⟨⟨fun l hl => ?_, fun m hm hl => ?_⟩, fun m hm hl => ?_, fun i hi h1 => ?_, fun i hi h1 => ?_, fun l hl => ?_⟩
  · obtain ⟨j, _, _, b, c, d⟩ := dl l hl
    exact ⟨b, c, d⟩
  · have h1 : R 2 m = 1 := of_decide_eq_true hl
    obtain ⟨i, l, _, l1, _, _, _, _, _, l5, l6, _⟩ := hB.latch hm h1
    rw [l6]
    exact ⟨l5, l1⟩
  · have h1 : R 56 m = 1 := of_decide_eq_true hl
    obtain ⟨_, k2, _⟩ := hB.2.1.1.2 m hm
    have h2 : R 2 m = 1 := by
      have k2 : R 56 m = km (R 2 m) := k2
      rw [h1] at k2
      rcases (hB.2.1.1.2 m hm).1 with z | z | z | z
      · have z : R 2 m = 0 := z
        rw [z] at k2; exact absurd k2 (by decide)
      · exact z
      · have z : R 2 m = 2 := z
        rw [z] at k2; exact absurd k2 (by decide)
      · have z : R 2 m = 3 := z
        rw [z] at k2; exact absurd k2 (by decide)
    obtain ⟨i, l, i1, l1, i2, i3, i4, l2, l3, l5, l6, _⟩ := hB.latch hm h2
    obtain ⟨j, j1, j2, b, c, d⟩ := dl l l1
    obtain ⟨a1, a2, a3, a4, a5⟩ := hB.node i1
    obtain ⟨b1, b2, b3, b4, b5⟩ := hB.node j1
    unfold nxC
    rw [l6, i2, a2, ← l3, j2, b2]
    refine ⟨a1, b1, ?_, d⟩
    rw [b5, b3]
    unfold drvF
    rw [j2, b2]
  · obtain ⟨_, ⟨l, q1, q2, q3, _⟩, _⟩ := (hB.2.2.1 i hi).la h1
    obtain ⟨j, j1, j2, b, c, d⟩ := dl l q1
    obtain ⟨b1, b2, b3, b4, b5⟩ := hB.node j1
    rw [dn i l hi q1 q3, ← q3]
    refine ⟨b, ?_, d⟩
    rw [j2, b2, b5]
    rw [j2, b2] at c
    exact c
  · obtain ⟨_, ⟨l, q1, q2, q3, _⟩, _⟩ := (hB.2.2.1 i hi).la h1
    exact ⟨l, q1, dn i l hi q1 q3⟩
  · obtain ⟨⟨i, i1, i2, i3⟩, _⟩ := hB.2.2.2.2.1 l hl
    obtain ⟨_, ⟨l', q1, q2, q3, _, _, q6⟩, q7, _⟩ := (hB.2.2.1 i i1).la i2
    have e : l' = l := (nI_eq (by omega) (by omega)).mp (q2.symm.trans i3)
    subst e
    exact ⟨i, i1, i2, dn i l' i1 q1 q3, (hB.node i1).2.2.2.1, q7, by unfold olF; rw [q6, nI_clamp (by omega)]⟩
theorem Bd.outs {R : Nat → Nat → Int32} {s : Nat → Nat} (hB : Bd R s) : OutC (grG R s) (s 5) (R 7) (R 10) (ondF R) ∧ OutM (grH R s) (s 5) (R 47) (R 60) (ondF R) ∧ ∀ o, o < s 5 → ∃ j : Nat, j < s 2 ∧ R 10 o = nI j ∧ R 60 o = nI j ∧ ondF R o = (R 7 j).toNatClampNeg := by
  have key : ∀ o, o < s 5 → ∃ j : Nat, j < s 2 ∧ R 10 o = nI j ∧ R 60 o = nI j ∧ ondF R o = (R 7 j).toNatClampNeg := fun o ho => by
    obtain ⟨o1, j, j1, j2⟩ := hB.2.2.2.2.2.2.1 o ho
    exact ⟨j, j1, j2, o1.trans j2, by unfold ondF; rw [j2, (hB.node j1).2.1]⟩
  refine ⟨fun o ho => ?_, fun o ho => ?_, key⟩
  · obtain ⟨j, j1, j2, j3, j4⟩ := key o ho
    obtain ⟨a1, a2, a3, a4, a5⟩ := hB.node j1
    rw [j2, a2, j4]
    exact ⟨a1, a3, a4⟩
  · obtain ⟨j, j1, j2, j3, j4⟩ := key o ho
    obtain ⟨a1, a2, a3, a4, a5⟩ := hB.node j1
    rw [j3, a2, j4, a5]
    exact ⟨a1, a3, a4⟩
/-- values of the leaves, from the bits that come in and those present -/
theorem Bd.vals {R : Nat → Nat → Int32} {s : Nat → Nat} (hB : Bd R s) (inp : Int32) : ∃ v : Nat → Bool, Vl 2 3 (grG R s) v ∧ (∀ m, m < s 1 → R 2 m = 0 → ∃ i : Nat, i < s 2 ∧ R 59 m = nI i ∧ R 5 m = nI (cI (R 46) i) ∧ nI (v m).toNat = inp >>> (nI (cI (R 46) i) &&& 31) &&& 1) ∧ ∀ m, m < s 1 → R 2 m = 1 → v m = (s 8).testBit (olF R m) := by
  have n1 := hB.1.1
  have hW := hB.2.1.2.1
  have hch : ∀ m, ∃ b : Bool, nI b.toNat = inp >>> (R 5 m &&& 31) &&& 1 := fun m => i32_bit _
  obtain ⟨bt, hbt⟩ := Classical.axiomOfChoice hch
  obtain ⟨v, hv, hl⟩ := Vl_ex (iv := 2) (nd := 3) (by decide) (fun m => if R 2 m = 0 then bt m else (s 8).testBit (olF R m)) hW
  refine ⟨v, hv, fun m hm h0 => ?_, fun m hm h1 => ?_⟩
  · have e : v m = bt m := by
      rw [hl m hm (by show ¬ R 2 m = 2; rw [h0]; decide) (by show ¬ R 2 m = 3; rw [h0]; decide), if_pos h0]
    obtain ⟨i, i1, i2, i3, i4⟩ := hB.2.2.2.1 m hm (.inl h0)
    have q : InP R i := by
      rcases (hB.2.2.1 i i1).2.2 with p | p | p
      · exact p
      · rw [p.1, h0] at i4; exact absurd i4 (by decide)
      · rw [p.1, h0] at i4; exact absurd i4 (by decide)
    have q7 := q.2.2.2.2.2.2
    rw [i3, nI_clamp (by omega)] at q7
    refine ⟨i, i1, i2, q7, ?_⟩
    rw [e, hbt m, q7]
  · rw [hl m hm (by show ¬ R 2 m = 2; rw [h1]; decide) (by show ¬ R 2 m = 3; rw [h1]; decide), if_neg (by rw [h1]; decide)]
