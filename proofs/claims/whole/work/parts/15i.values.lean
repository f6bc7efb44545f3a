theorem Vl.down0 {iv nd : Int32} {c : Nat} {G : Gr} {has : Prop} {o : Int32 × Gr} {v : Nat → Bool} (h : grown0 iv nd c G has o) (hv : Vl iv nd o.2 v) : Vl iv nd G v := hv.low h.2.1 h.2.2.2.2
theorem flg2 {x ones : Nat} : flg x ones = 2 ↔ ¬ x = 0 ∧ ¬ x = ones := by
  unfold flg
  by_cases a : x = 0
  · rw [if_pos a]; omega
  · rw [if_neg a]
    by_cases b : x = ones
    · rw [if_pos b]; omega
    · rw [if_neg b]; omega
theorem flg_le (x ones : Nat) : flg x ones ≤ 2 := by
  unfold flg; split <;> (try split) <;> omega
theorem half_val {v : Nat → Bool} {l : Int32} {x ones a : Nat} (h1 : ones.testBit a = true) (h : flg x ones = 2 → v l.toNatClampNeg = x.testBit a) : hv_ v (flg x ones) l = x.testBit a := by
  by_cases a0 : x = 0
  · subst a0; simp [flg, hv_]
  · by_cases b : x = ones
    · subst b; simp [flg, hv_, a0, h1]
    · have e := flg2.mpr ⟨a0, b⟩
      rw [← h e, e]; rfl
theorem tab1_val {iv nd : Int32} (ne : ¬ iv = nd) {G : Gr} {z0 : Int32} {t : Nat} {v : Nat → Bool} (hW : WFG iv nd G) (hn : G.1 + 4 ≤ 48) (hz : isN G.1 z0) (ht0 : 0 < t) (ht : t < 3) (hv : Vl iv nd (tab1 iv nd G z0 t).2 v) :
    v (tab1 iv nd G z0 t).1.toNatClampNeg = t.testBit (v z0.toNatClampNeg).toNat := by
  have := join_val ne hW hn hz (lo := t % 2) (hi := t / 2) (l := 0) (h := 0) (by omega) (by omega) (by omega) (by omega) (by omega) hv
  show v (joinN iv nd G z0 (t % 2) 0 (t / 2) 0).1.toNatClampNeg = _
  rw [this]
  have e : t = 1 ∨ t = 2 := by omega
  rcases e with e | e <;> subst e <;> cases v z0.toNatClampNeg <;> rfl
theorem tb_lt (t k : Nat) (b : Bool) (i : Nat) (hi : i < k) : t.testBit (i + k * b.toNat) = if b = true then (t / 2 ^ k).testBit i else (t % 2 ^ k).testBit i := by
  cases b
  · simp [Nat.testBit_mod_two_pow, hi]
  · simp [Nat.testBit_div_two_pow, Nat.add_comm]
theorem bn_lt (b : Bool) : b.toNat < 2 := by cases b <;> decide
theorem ones3 (a : Nat) (h : a < 2) : (3 : Nat).testBit a = true := by
  have : a = 0 ∨ a = 1 := by omega
  rcases this with e | e <;> subst e <;> rfl
theorem ones15 (a : Nat) (h : a < 4) : (15 : Nat).testBit a = true := by
  have : a = 0 ∨ a = 1 ∨ a = 2 ∨ a = 3 := by omega
  rcases this with e | e | e | e <;> subst e <;> rfl
theorem tab2_val {iv nd : Int32} (ne : ¬ iv = nd) {G : Gr} {z0 z1 : Int32} {t : Nat} {v : Nat → Bool} (hW : WFG iv nd G) (hn : G.1 + 6 ≤ 48) (hz : isN G.1 z0) (hz1 : isN G.1 z1) (ht0 : 0 < t) (ht : t < 15) (hv : Vl iv nd (tab2 iv nd G z0 z1 t).2 v) :
    v (tab2 iv nd G z0 z1 t).1.toNatClampNeg = t.testBit ((v z0.toNatClampNeg).toNat + 2 * (v z1.toNatClampNeg).toNat) := by
  rw [tb_lt t 2 _ _ (bn_lt _)]
  unfold tab2 at hv ⊢
  by_cases a : t % 4 = t / 4
  · rw [if_pos a] at hv ⊢
    rw [tab1_val ne hW (by omega) hz (by omega) (by omega) hv, show (2 : Nat) ^ 2 = 4 from rfl, ← a, ite_self]
  · rw [if_neg a] at hv ⊢
    have h1 := tb2L_grown (t := t) ne hW (by omega) hz
    have h2 := tb2H_grown (t := t) ne hW (by omega) hz (by omega)
    have h3 := h1.trans0 h2
    have hj := join_grown ne h2.1 (by have := h3.2.2.1; omega) (hz1.mono h3.2.1) (lo := flg (t % 4) 3) (l := (tb2L iv nd G z0 t).1) (hi := flg (t / 4) 3) (h := (tb2H iv nd G z0 t).1) (fun q => (h1.2.2.2.1 (flg_lt _ _ q)).mono h2.2.1) (fun q => h2.2.2.2.1 q) (flg_lt _ _)
    have vH := hv.down hj
    have vL := vH.down0 h2
    rw [join_val ne h2.1 (by have := h3.2.2.1; omega) (hz1.mono h3.2.1) (fun q => (h1.2.2.2.1 (flg_lt _ _ q)).mono h2.2.1) (fun q => h2.2.2.2.1 q) (flg_le _ _) (flg_le _ _) (fun p q e => by
      unfold flg at p q e
      split at p <;> split at q <;> (try split at p) <;> (try split at q) <;> simp_all <;> omega) hv]
    rw [half_val (ones3 _ (bn_lt _)) (fun e => ?_), half_val (ones3 _ (bn_lt _)) (fun e => ?_)]
    · unfold tb2L at vL ⊢
      rw [if_pos e] at vL ⊢
      have := flg2.mp e
      exact tab1_val ne hW (by omega) hz (by omega) (by omega) vL
    · have h11 := h1.2.1
      have h12 := h1.2.2.1
      unfold tb2H at vH ⊢
      rw [if_pos e] at vH ⊢
      have := flg2.mp e
      exact tab1_val ne h1.1 (by omega) (hz.mono h11) (by omega) (by omega) vH
theorem tab3_val {iv nd : Int32} (ne : ¬ iv = nd) {G : Gr} {z0 z1 z2 : Int32} {t : Nat} {v : Nat → Bool} (hW : WFG iv nd G) (hn : G.1 + 16 ≤ 48) (hz : isN G.1 z0) (hz1 : isN G.1 z1) (hz2 : isN G.1 z2) (ht0 : 0 < t) (ht : t < 255) (hv : Vl iv nd (tab3 iv nd G z0 z1 z2 t).2 v) :
    v (tab3 iv nd G z0 z1 z2 t).1.toNatClampNeg = t.testBit ((v z0.toNatClampNeg).toNat + 2 * (v z1.toNatClampNeg).toNat + 4 * (v z2.toNatClampNeg).toNat) := by
  have hb : (v z0.toNatClampNeg).toNat + 2 * (v z1.toNatClampNeg).toNat < 4 := by
    have := bn_lt (v z0.toNatClampNeg); have := bn_lt (v z1.toNatClampNeg); omega
  rw [tb_lt t 4 _ _ hb]
  unfold tab3 at hv ⊢
  by_cases a : t % 16 = t / 16
  · rw [if_pos a] at hv ⊢
    rw [tab2_val ne hW (by omega) hz hz1 (by omega) (by omega) hv, show (2 : Nat) ^ 4 = 16 from rfl, ← a, ite_self]
  · rw [if_neg a] at hv ⊢
    have h1 := tb3L_grown (t := t) ne hW (by omega) hz hz1
    have h2 := tb3H_grown (t := t) ne hW (by omega) hz hz1 (by omega)
    have h3 := h1.trans0 h2
    have hj := join_grown ne h2.1 (by have := h3.2.2.1; omega) (hz2.mono h3.2.1) (lo := flg (t % 16) 15) (l := (tb3L iv nd G z0 z1 t).1) (hi := flg (t / 16) 15) (h := (tb3H iv nd G z0 z1 t).1) (fun q => (h1.2.2.2.1 (flg_lt _ _ q)).mono h2.2.1) (fun q => h2.2.2.2.1 q) (flg_lt _ _)
    have vH := hv.down hj
    have vL := vH.down0 h2
    rw [join_val ne h2.1 (by have := h3.2.2.1; omega) (hz2.mono h3.2.1) (fun q => (h1.2.2.2.1 (flg_lt _ _ q)).mono h2.2.1) (fun q => h2.2.2.2.1 q) (flg_le _ _) (flg_le _ _) (fun p q e => by
      unfold flg at p q e
      split at p <;> split at q <;> (try split at p) <;> (try split at q) <;> simp_all <;> omega) hv]
    rw [half_val (ones15 _ hb) (fun e => ?_), half_val (ones15 _ hb) (fun e => ?_)]
    · unfold tb3L at vL ⊢
      rw [if_pos e] at vL ⊢
      have := flg2.mp e
      exact tab2_val ne hW (by omega) hz hz1 (by omega) (by omega) vL
    · have h11 := h1.2.1
      have h12 := h1.2.2.1
      unfold tb3H at vH ⊢
      rw [if_pos e] at vH ⊢
      have := flg2.mp e
      exact tab2_val ne h1.1 (by omega) (hz.mono h11) (hz1.mono h11) (by omega) (by omega) vH
