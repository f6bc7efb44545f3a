/-! The gates and what they read: pure. Own work. -/
theorem gF_mono {n : Nat} {kd : Nat → Nat} {rt : Nat → Bool} {pins : Nat → List Nat} {m k : Nat} (h : gF n kd rt pins k m) : ∀ j, gF n kd rt pins (k + j) m
  | 0 => h
  | j + 1 => .inl (gF_mono h j)
noncomputable abbrev rtW (R : Nat → Nat → Int32) (s : Nat → Nat) : Nat → Bool := rtF (s 1) (kdF R) (pxF R) (pyF R) (needF R s)
noncomputable abbrev gtW (R : Nat → Nat → Int32) (s cost : Nat → Nat) : Nat → Prop := gtF (s 1) (kdF R) (pxF R) (pyF R) (needF R s) (pF R) (aF R) (s 6) cost
noncomputable abbrev chsW (R : Nat → Nat → Int32) (s cost : Nat → Nat) (g : Nat) : Nat × Nat × List Nat := chosen (kdF R) (pxF R) (pyF R) (rtW R s) (pF R) (aF R) (s 6) cost g
noncomputable def pinW (R : Nat → Nat → Int32) (s cost : Nat → Nat) (g : Nat) : List Nat := (chsW R s cost g).2.2
noncomputable def celW (R : Nat → Nat → Int32) (s cost : Nat → Nat) (g : Nat) : Nat := (chsW R s cost g).1
noncomputable def plW (R : Nat → Nat → Int32) (s cost : Nat → Nat) (g : Nat) : Nat := (pinW R s cost g).length
noncomputable def qW (R : Nat → Nat → Int32) (s cost : Nat → Nat) (g : Nat) : Nat := pF R (celW R s cost g)
noncomputable def dW (R : Nat → Nat → Int32) (s cost : Nat → Nat) (g : Nat) : Nat := if dlF R (celW R s cost g) ≤ 1000 then dlF R (celW R s cost g) else 0
noncomputable def tblW (R : Nat → Nat → Int32) (s cost : Nat → Nat) (g : Nat) : Nat := tabP (qW R s cost g) (2 ^ pinsP (qW R s cost g))
theorem dW_le (R : Nat → Nat → Int32) (s cost : Nat → Nat) (g : Nat) : dW R s cost g ≤ 1000 := by
  unfold dW
  split <;> omega
theorem Bd.gates {R : Nat → Nat → Int32} {s cost : Nat → Nat} (hB : Bd R s) (hv : CovA (grG R s) (kdF R) (pxF R) (pyF R) (needF R s) (pF R) (aF R) (s 6) cost) :
    (∀ g, gtW R s cost g → g < s 1 ∧ lvF (s 1) (kdF R) (pxF R) (pyF R) (needF R s) g = true ∧ (kdF R g = 2 ∨ kdF R g = 3) ∧ celW R s cost g < s 6 ∧ qW R s cost g ∈ pats ∧ plW R s cost g = pinsP (qW R s cost g) ∧ plW R s cost g ≤ 4 ∧ dlF R (celW R s cost g) = dW R s cost g ∧ (∀ x, x ∈ pinW R s cost g → x < g ∧ ((kdF R x = 2 ∨ kdF R x = 3) → gtW R s cost x)) ∧
      (bestC (kdF R) (pxF R) (pyF R) (rtW R s) (pF R) (aF R) (s 6) cost 48001 g).2 = some (celW R s cost g, (chsW R s cost g).2.1, pinW R s cost g) ∧ bestC (kdF R) (pxF R) (pyF R) (rtW R s) (pF R) (aF R) (s 6) cost 48001 g = bestC (kdF R) (pxF R) (pyF R) (rtW R s) (pF R) (aF R) (s 6) cost 1000000 g) ∧
    ∀ m, m < s 1 → needF R s m = true → (kdF R m = 2 ∨ kdF R m = 3) → gtW R s cost m := by
  obtain ⟨hC, _, hC3⟩ := hB.cells
  have one : ∀ g, g < s 1 → (lvF (s 1) (kdF R) (pxF R) (pyF R) (needF R s) g = true ∧ (kdF R g = 2 ∨ kdF R g = 3)) → _ := fun g hg h => chosen_eq (G := grG R s) (hv g hg h.1 h.2)
  have inn : ∀ k m, gF (s 1) (kdF R) (rtW R s) (fun g => (chsW R s cost g).2.2) k m → m < s 1 ∧ (lvF (s 1) (kdF R) (pxF R) (pyF R) (needF R s) m = true ∧ (kdF R m = 2 ∨ kdF R m = 3)) :=
    gF_in (Gd := fun m => lvF (s 1) (kdF R) (pxF R) (pyF R) (needF R s) m = true ∧ (kdF R m = 2 ∨ kdF R m = 3)) (fun m _ h => rtF_lv h) (fun g hg h x hx => by
      obtain ⟨c, sw, pins, e, _, _, _, _, e6, _⟩ := one g hg h
      have hx : x ∈ (chsW R s cost g).2.2 := hx
      rw [show chsW R s cost g = (c, sw, pins) from e] at hx
      obtain ⟨y1, y2⟩ := e6 x hx
      exact ⟨by omega, fun z => ⟨y2, z⟩⟩)
  have low : ∀ k i, gF (s 1) (kdF R) (rtW R s) (fun g => (chsW R s cost g).2.2) k i → ∀ x, x ∈ (chsW R s cost i).2.2 → x < i := fun k i h x hx => by
    obtain ⟨hi, hl⟩ := inn k i h
    obtain ⟨c, sw, pins, e, _, _, _, _, e6, _⟩ := one i hi hl
    rw [show chsW R s cost i = (c, sw, pins) from e] at hx
    exact (e6 x hx).1
  refine ⟨fun g hg => ?_, fun m hm hnd hl => ?_⟩
  · obtain ⟨hi, hl⟩ := inn _ g hg
    obtain ⟨c, sw, pins, e, e2, e3, e4, e5, e6, e7⟩ := one g hi hl
    have ec : chsW R s cost g = (c, sw, pins) := e
    have k1 : celW R s cost g = c := by unfold celW; rw [ec]
    have k2 : pinW R s cost g = pins := by unfold pinW; rw [ec]
    have kq : qW R s cost g = pF R c := by unfold qW; rw [k1]
    have hp := (hC c e4).1
    have hp4 := (pat_num hp).2.1
    refine ⟨hi, hl.1, hl.2, by rw [k1]; exact e4, by rw [kq]; exact hp, by unfold plW; rw [k2, kq]; exact e7, by unfold plW; rw [k2, e7]; exact hp4, ?_, fun x hx => ?_, ?_, (hv g hi hl.1 hl.2).1⟩
    · unfold dW
      rw [k1, if_pos (hC3 c e4).2.1]
    · rw [k2] at hx
      obtain ⟨y1, y2⟩ := e6 x hx
      refine ⟨y1, fun z => ?_⟩
      have st := (gF_still (kd := kdF R) (rt := rtW R s) (pins := fun g => (chsW R s cost g).2.2) low (m := g) (j := g + 1) (k := s 1 - 1 - g) (by omega) (by omega)).mp (by rw [show s 1 - 1 - g + (g + 1) = s 1 by omega]; exact hg)
      have nxt : gF (s 1) (kdF R) (rtW R s) (fun g => (chsW R s cost g).2.2) (s 1 - 1 - g + 1) x := by
        refine .inr ?_
        rw [show s 1 - 1 - (s 1 - 1 - g) = g by omega]
        refine ⟨st, ?_, z⟩
        show x ∈ (chsW R s cost g).2.2
        rw [ec]; exact hx
      have := gF_mono nxt (s 1 - (s 1 - 1 - g + 1))
      rw [show s 1 - 1 - g + 1 + (s 1 - (s 1 - 1 - g + 1)) = s 1 by omega] at this
      exact this
    · rw [k1, k2, show (chsW R s cost g).2.1 = sw by rw [ec]]; exact e2
  · have h0 : gF (s 1) (kdF R) (rtW R s) (fun g => (chsW R s cost g).2.2) 0 m := by
      refine ⟨hm, ?_⟩
      show rtF (s 1) (kdF R) (pxF R) (pyF R) (needF R s) m = true
      unfold rtF
      rw [hnd, decide_eq_true hl]
      rfl
    have := gF_mono h0 (s 1)
    rw [Nat.zero_add] at this
    exact this
/-- the same period is found before any move -/
theorem Pb_link {E : Nat → Nat → Nat → Prop} {gt : Nat → Prop} {d : Nat → Nat} {n : Nat} {F S : Nat → Nat → Nat} {T : Nat → Int} {Pb P : Nat} (hH : rt_H E gt d n) (hF : rt_FW E d n F S n) (hT : rt_T E gt d n (fun _ => 0) T) (h1 : ∀ u, gt u → T u ≤ Pb) (h2 : (∃ u, gt u) → ∃ u, gt u ∧ (Pb : Int) = T u) (h3 : (¬ ∃ u, gt u) → Pb = 0) (hP : PbI gt d F S P 2304) : Pb = P := by
  obtain ⟨p1, p2⟩ := hP
  have hn := hH.1.1
  have hgn := hH.2.2
  have le1 : P ≤ Pb := by
    rcases p2 with z | ⟨u, v, gu, gv, hf, e⟩
    · omega
    · obtain ⟨t1, t2, t3⟩ := hT u gu
      have hT1 := h1 u gu
      by_cases q : u = v
      · subst q
        have := (hF.2.1 u (hgn u gu)).2
        omega
      · obtain ⟨m, hw⟩ := hF.1 u v (hgn u gu) (hgn v gv) q (by omega)
        rw [hf] at hw
        have := t3 m v 0 (S u v) hw (by simp)
        omega
  have le2 : Pb ≤ P := by
    by_cases ex : ∃ u, gt u
    · obtain ⟨u, gu, e⟩ := h2 ex
      obtain ⟨t1, t2, t3⟩ := hT u gu
      have hu := hgn u gu
      rcases t1 with q | ⟨m, v, w, dl, hw, hr, q⟩
      · obtain ⟨f1, f2⟩ := hF.2.1 u hu
        have := p1 u u gu gu (by omega) f1
        omega
      · have hw0 : w = 0 := by
          have hr : (0 : Int) = 0 + (w : Int) := hr
          omega
        subst hw0
        obtain ⟨_, gv⟩ := rt_W_end hH.2.1 hw
        have hv := hgn v gv
        obtain ⟨f1, f2⟩ := rt_FW_all hH.1 hF hw
        unfold rt_lx at f2
        have := p1 u v gu gv (by omega) (by omega)
        omega
    · have := h3 ex
      omega
  omega
