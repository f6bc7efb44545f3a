/-! The cover as a whole: the given side. Own work. -/
theorem GK.wf {G : Gr} {kd px py : Nat → Nat} (h : GK G kd px py) : wf kd px py G.1 := fun j hj => by
  have ⟨_, _, a, b⟩ := h j hj
  exact ⟨fun e => (a (.inl e)).2, fun e => ⟨(a (.inr e)).2, (b e).2.1, (b e).2.2⟩⟩
theorem rtU_rtF {n : Nat} {kd px py : Nat → Nat} {need : Nat → Bool} : rtU kd need (usF n kd px py need n) = rtF n kd px py need := rfl
/-- what laying leaves: every live logic node below i has its choice in the rows -/
def ChA (G : Gr) (kd px py : Nat → Nat) (need : Nat → Bool) (p A : Nat → Nat) (cc : Nat) (cost : Nat → Nat) (cs ch cp : Nat → Int32) (i : Nat) : Prop :=
  ∀ m, m < i → lvF G.1 kd px py need m = true → (kd m = 2 ∨ kd m = 3) → ChR m cs ch cp (bestC kd px py (rtF G.1 kd px py need) p A cc cost 48001 m)
def CovA (G : Gr) (kd px py : Nat → Nat) (need : Nat → Bool) (p A : Nat → Nat) (cc : Nat) (cost : Nat → Nat) : Prop :=
  ∀ n, n < G.1 → lvF G.1 kd px py need n = true → (kd n = 2 ∨ kd n = 3) → CovP kd px py (rtF G.1 kd px py need) (fun x => lvF G.1 kd px py need x = true) p A cc cost n
theorem lv_cl {G : Gr} {kd px py : Nat → Nat} {need : Nat → Bool} (hK : GK G kd px py) : ∀ k, k < G.1 → lvF G.1 kd px py need k = true → (kd k = 2 → px k < G.1 ∧ lvF G.1 kd px py need (px k) = true) ∧ (kd k = 3 → (px k < G.1 ∧ lvF G.1 kd px py need (px k) = true) ∧ (py k < G.1 ∧ lvF G.1 kd px py need (py k) = true)) := by
  intro k hk hl
  have ⟨a, b⟩ := lv_part hK.wf k hk hl
  have ⟨c, d⟩ := hK.wf k hk
  exact ⟨fun e => ⟨by have := c e; omega, a e⟩, fun e => ⟨⟨by have := d e; omega, (b e).1⟩, ⟨by have := d e; omega, (b e).2⟩⟩⟩
theorem pins_c {G : Gr} {kd px py : Nat → Nat} {need : Nat → Bool} {p A cost : Nat → Nat} {cc n : Nat} {cs ch cp : Nat → Int32} {pa ar pn ndc : Nat → Int32} (hK : GK G kd px py) (hC : CellsC cc pa ar pn ndc p A) (hv : CovA G kd px py need p A cc cost) (hA : ChA G kd px py need p A cc cost cs ch cp n) (hn : n < G.1) (hl : lvF G.1 kd px py need n = true) :
    PinsC kd px py (rtF G.1 kd px py need) p cc n cost cs := by
  intro c sw pins hc h
  have hp := (hC c hc).1
  have ⟨q1, q2⟩ := pats_ne hp
  have ⟨t1, _⟩ := lay_top hK.wf hn q1 q2 h
  have t3 := lay_lv (lv_cl (need := need) hK) _ _ _ _ _ _ (fun x hx => by rw [List.mem_singleton.mp hx]; exact ⟨hn, hl⟩) (fun x hx => absurd hx (by simp)) h
  have t4 := lay_len _ _ _ _ _ _ h
  refine ⟨by rw [t4, (pats_pt hp).2.1]; simp, fun x hx => ⟨t1 x hx, fun hr => ?_⟩⟩
  have v := hv x (t3 x hx).1 (t3 x hx).2 hr.1
  have r := hA x (t1 x hx) (t3 x hx).2 hr.1
  refine ⟨?_, v.2.2.1⟩
  rw [r.1, v.1, ← v.2.1]
theorem ChR.keep {m n : Nat} {cs ch cp cs2 ch2 cp2 : Nat → Int32} {st : ChS} (h : ChR m cs ch cp st) (hne : ¬ m = n) (h1 : ∀ j, ¬ j = n → cs2 j = cs j ∧ ch2 j = ch j) (h2 : ∀ i, i < 4 * n ∨ 4 * n + 4 ≤ i → cp2 i = cp i) (hl : ∀ c sw pins, st.2 = some (c, sw, pins) → pins.length ≤ 4) : ChR m cs2 ch2 cp2 st := by
  obtain ⟨a, b, c⟩ := h
  refine ⟨(h1 m hne).1.trans a, fun e => (h1 m hne).2.trans (b e), fun x sw pins e => ?_⟩
  have ⟨c1, c2⟩ := c x sw pins e
  have := hl x sw pins e
  exact ⟨(h1 m hne).2.trans c1, c2.congr fun i hi => h2 _ (by omega)⟩
/-- the chosen cell and pins of a node -/
def chosen (kd px py : Nat → Nat) (rt : Nat → Bool) (p A : Nat → Nat) (cc : Nat) (cost : Nat → Nat) (n : Nat) : Nat × Nat × List Nat := (bestC kd px py rt p A cc cost 48001 n).2.getD (0, 0, [])
theorem chosen_eq {G : Gr} {kd px py : Nat → Nat} {need : Nat → Bool} {p A cost : Nat → Nat} {cc n : Nat} (h : CovP kd px py (rtF G.1 kd px py need) (fun x => lvF G.1 kd px py need x = true) p A cc cost n) :
    ∃ c sw pins, chosen kd px py (rtF G.1 kd px py need) p A cc cost n = (c, sw, pins) ∧ (bestC kd px py (rtF G.1 kd px py need) p A cc cost 48001 n).2 = some (c, sw, pins) ∧ layC kd px py (rtF G.1 kd px py need) p n c sw = some pins ∧ c < cc ∧ sw < 2 ^ nandsP (p c) ∧ (∀ x, x ∈ pins → x < n ∧ lvF G.1 kd px py need x = true) ∧ pins.length = pinsP (p c) := by
  obtain ⟨h1, _, _, c, sw, pins, h2, h3, h4, h5, h6, h7⟩ := h
  have e : (bestC kd px py (rtF G.1 kd px py need) p A cc cost 48001 n).2 = some (c, sw, pins) := by rw [h1, h2]
  exact ⟨c, sw, pins, by unfold chosen; rw [e]; rfl, e, h3, h4, h5, h6, h7⟩
theorem rtF_lv {n : Nat} {kd px py : Nat → Nat} {need : Nat → Bool} {m : Nat} (h : rtF n kd px py need m = true) : lvF n kd px py need m = true ∧ (kd m = 2 ∨ kd m = 3) := by
  unfold rtF at h
  rw [Bool.and_eq_true, Bool.or_eq_true] at h
  refine ⟨?_, of_decide_eq_true h.1⟩
  unfold lvF
  rw [Bool.or_eq_true]
  rcases h.2 with q | q
  · exact .inl q
  · have := of_decide_eq_true q; exact .inr (decide_eq_true (by omega))
/-- all gates are live logic nodes with their choice in the rows -/
theorem gd_all {G : Gr} {kd px py : Nat → Nat} {need : Nat → Bool} {p A cost : Nat → Nat} {cc : Nat} {cs ch cp pa ar pn ndc : Nat → Int32} (hcc : cc ≤ 8) (hC : CellsC cc pa ar pn ndc p A) (hv : CovA G kd px py need p A cc cost) (hA : ChA G kd px py need p A cc cost cs ch cp G.1) :
    ∀ k m, gF G.1 kd (rtF G.1 kd px py need) (fun g => (chosen kd px py (rtF G.1 kd px py need) p A cc cost g).2.2) k m → m < G.1 ∧ (lvF G.1 kd px py need m = true ∧ (kd m = 2 ∨ kd m = 3)) ∧ GdC G ch cp pn (fun g => (chosen kd px py (rtF G.1 kd px py need) p A cc cost g).2.2) m := by
  have all : ∀ m, m < G.1 → (lvF G.1 kd px py need m = true ∧ (kd m = 2 ∨ kd m = 3)) → GdC G ch cp pn (fun g => (chosen kd px py (rtF G.1 kd px py need) p A cc cost g).2.2) m ∧ ∀ x, x ∈ (chosen kd px py (rtF G.1 kd px py need) p A cc cost m).2.2 → x < G.1 ∧ lvF G.1 kd px py need x = true := by
    intro m hm hl
    obtain ⟨c, sw, pins, e1, e2, _, e4, _, e6, e7⟩ := chosen_eq (hv m hm hl.1 hl.2)
    have r := (hA m hm hl.1 hl.2).2.2 c sw pins e2
    have ⟨c1, c2, c3, c4, c5, c6⟩ := hC c e4
    have ⟨_, p4, _⟩ := pat_num c1
    refine ⟨⟨c, by omega, r.1, ?_, ?_, ?_, ?_⟩, ?_⟩
    · show pn c = nI (chosen kd px py (rtF G.1 kd px py need) p A cc cost m).2.2.length
      rw [e1, c5, e7]
    · show (chosen kd px py (rtF G.1 kd px py need) p A cc cost m).2.2.length ≤ 4
      rw [e1, e7]; exact p4
    · show Stk _ (chosen kd px py (rtF G.1 kd px py need) p A cc cost m).2.2
      rw [e1]; exact r.2
    · show ∀ x, x ∈ (chosen kd px py (rtF G.1 kd px py need) p A cc cost m).2.2 → x < G.1
      rw [e1]; exact fun x hx => by have := (e6 x hx).1; omega
    · rw [e1]; exact fun x hx => ⟨by have := (e6 x hx).1; omega, (e6 x hx).2⟩
  intro k m h
  have ⟨h1, h2⟩ := gF_in (Gd := fun m => lvF G.1 kd px py need m = true ∧ (kd m = 2 ∨ kd m = 3)) (fun m _ hr => rtF_lv hr) (fun g hg hgd x hx => ⟨((all g hg hgd).2 x hx).1, fun hl => ⟨((all g hg hgd).2 x hx).2, hl⟩⟩) k m h
  exact ⟨h1, h2, (all m h1 h2).1⟩
