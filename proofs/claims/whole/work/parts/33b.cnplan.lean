/-! Mapping: the given side. Own work. -/
/-- the class's rows of the mapped circuit -/
def MapC (w : cx_W) (n : Nat) (gt : Nat → Prop) (pl F : Nat → Nat) (fo oc : Nat) (S tbl mv cn ro pv cel : Nat → Nat) (Pb P : Nat) : Prop :=
  ∃ (gs ch pn tb sr fg gm ct mr or_ : Nat → Int32) (rw pw : Nat → Int64) (od : Nat → Nat), ArW w n gt pl F fo oc S tbl cn gs ch pn tb sr fg gm ct ∧ w 36 = oRe (nI Pb) (nI P) ∧ w 37 = ai 48 mr ∧ MvR mr mv ∧ w 34 = al 196 rw ∧ (∀ e, e < fo + oc → rw e = lN (ro e) ∧ ro e < 2 ^ cn e ∧ cn e ≤ 60) ∧ w 41 = al 196 pw ∧ PvR fo oc cn pv pw ∧ w 42 = ai 48 or_ ∧ OrI gt pl F S cn gt or_ od (rt_cnt gt n) ∧ ∀ g, gt g → ch g = nI (cel g) ∧ cel g < 8
abbrev chF (R : Nat → Nat → Int32) (s : Nat → Nat) (x : Nat) : Nat × Nat × Nat := chn (laN (grG R s)) (nxC (drvF R) (olF R)) (fbC (s 7) (olF R)) x 6
/-- where the connections come from -/
def CnS (gt : Nat → Prop) (pl F : Nat → Nat) (fo oc : Nat) (S L B : Nat → Nat) (pins : Nat → List Nat) (ond : Nat → Nat) (ch : Nat → Nat × Nat × Nat) : Prop :=
  (∀ g p, gt g → p < pl g → S (F g + p) = (ch (pinI (pins g) p)).1 ∧ L (F g + p) = (ch (pinI (pins g) p)).2.1 ∧ B (F g + p) = (ch (pinI (pins g) p)).2.2) ∧ ∀ o, o < oc → S (fo + o) = (ch (ond o)).1 ∧ L (fo + o) = (ch (ond o)).2.1 ∧ B (fo + o) = (ch (ond o)).2.2
theorem pinI_mem {l : List Nat} {i : Nat} (hi : i < l.length) : pinI l i ∈ l := by
  unfold pinI
  have h : l.length - (i + 1) < l.length := by omega
  cases e : l.drop (l.length - (i + 1)) with
  | nil =>
    have := congrArg List.length e
    rw [List.length_drop] at this
    simp at this
    omega
  | cons a r =>
    have : a ∈ l.drop (l.length - (i + 1)) := by rw [e]; exact List.mem_cons_self ..
    exact List.mem_of_mem_drop this
theorem lN_nat {b : Nat} (h : b < 2 ^ 63) : (lN b).toBitVec.toNat = b := by
  show (BitVec.ofNat 64 b).toNat = b
  rw [BitVec.toNat_ofNat, Nat.mod_eq_of_lt (by omega)]
/-- from the rows that connect leaves to the connections as numbers -/
theorem cn_plan {R : Nat → Nat → Int32} {s cost : Nat → Nat} (hB : Bd R s) (hv : CovA (grG R s) (kdF R) (pxF R) (pyF R) (needF R s) (pF R) (aF R) (s 6) cost) (hch : ChP R s (chF R s)) {w : cx_W} {F : Nat → Nat} {fo : Nat} (hW : CnW w (chF R s) (gtW R s cost) (pinW R s cost) F fo (s 5) (ondF R)) :
    ∃ (sr tg ct fg : Nat → Int32) (rw : Nat → Int64) (S L B tf : Nat → Nat), w 31 = ai 196 sr ∧ w 32 = ai 196 tg ∧ w 33 = ai 196 ct ∧ w 34 = al 196 rw ∧ w 35 = ai 48 fg ∧ CnP (fun x => R 2 x = 0) (s 1) (gtW R s cost) (plW R s cost) F fo (s 5) S L B tf (dW R s cost) ∧ CnS (gtW R s cost) (plW R s cost) F fo (s 5) S L B (pinW R s cost) (ondF R) (chF R s) ∧
      (∀ e, e < fo + s 5 → sr e = nI (S e) ∧ ct e = nI (L e) ∧ rw e = lN (B e)) ∧ (∀ g p, gtW R s cost g → p < plW R s cost g → tg (F g + p) = nI g) ∧ (∀ g, gtW R s cost g → fg g = nI (F g)) ∧ ∀ o, o < s 5 → tg (fo + o) = -1 := by
  obtain ⟨_, hfo, ⟨f1, f2, f3⟩, sr, tg, ct, rw, fg, w31, w32, w33, w34, w35, hR, hO⟩ := hW
  obtain ⟨g1, g2⟩ := hB.gates hv
  obtain ⟨_, _, outs⟩ := hB.outs
  have n1 := hB.1.1
  have n5 := hB.1.2.2.2.2.1
  have p64 : ∀ k, k ≤ 6 → 2 ^ k ≤ 2 ^ 6 := fun k hk => Nat.pow_le_pow_right (by decide) hk
  -- one connection
  have row : ∀ e x, x < s 1 → sr e = nI (chF R s x).1 → ct e = nI (chF R s x).2.1 → rw e = lN (chF R s x).2.2 → (sr e).toNatClampNeg = (chF R s x).1 ∧ (ct e).toNatClampNeg = (chF R s x).2.1 ∧ (rw e).toBitVec.toNat = (chF R s x).2.2 := fun e x hx h1 h2 h3 => by
    obtain ⟨c1, c2, c3, c4, c5⟩ := hch x hx
    have := p64 _ c3
    rw [h1, h2, h3, nI_clamp (by omega), nI_clamp (by omega), lN_nat (by omega)]
    exact ⟨rfl, rfl, rfl⟩
  have src : ∀ x, x < s 1 → (needF R s x = true ∨ ((kdF R x = 2 ∨ kdF R x = 3) → gtW R s cost x)) → gtW R s cost (chF R s x).1 ∨ R 2 (chF R s x).1 = 0 := fun x hx hx2 => by
    obtain ⟨c1, c2, c3, c4, c5⟩ := hch x hx
    obtain ⟨k1, _, _, _⟩ := hB.2.1.1.2 _ c1
    have k1 : R 2 (chF R s x).1 = 0 ∨ R 2 (chF R s x).1 = 1 ∨ R 2 (chF R s x).1 = 2 ∨ R 2 (chF R s x).1 = 3 := k1
    have lg : (kdF R (chF R s x).1 = 2 ∨ kdF R (chF R s x).1 = 3) ∨ R 2 (chF R s x).1 = 0 := by
      unfold kdF
      rcases k1 with z | z | z | z
      · exact .inr z
      · exact absurd z c2
      · rw [z]; exact .inl (.inl rfl)
      · rw [z]; exact .inl (.inr rfl)
    refine lg.imp (fun l => ?_) id
    rcases c5 with ⟨_, e⟩ | ⟨_, m, m1, e⟩
    · rw [e] at l ⊢
      rcases hx2 with y | y
      · exact g2 x hx y l
      · exact y l
    · refine g2 _ c1 (needF_iff.mpr ?_) l
      exact .inr ⟨m, m1, e.symm⟩
  have gp : ∀ g p, gtW R s cost g → p < plW R s cost g → pinI (pinW R s cost g) p < g ∧ pinI (pinW R s cost g) p < s 1 ∧ ((kdF R (pinI (pinW R s cost g) p) = 2 ∨ kdF R (pinI (pinW R s cost g) p) = 3) → gtW R s cost (pinI (pinW R s cost g) p)) := fun g p hg hp => by
    obtain ⟨a1, _, _, _, _, _, _, _, a9, _⟩ := g1 g hg
    obtain ⟨y1, y2⟩ := a9 _ (pinI_mem hp)
    exact ⟨y1, by omega, y2⟩
  have op : ∀ o, o < s 5 → ondF R o < s 1 ∧ needF R s (ondF R o) = true := fun o ho => by
    obtain ⟨j, j1, j2, j3, j4⟩ := outs o ho
    exact ⟨by rw [j4]; exact (hB.node j1).2.2.2.1, needF_iff.mpr (.inl ⟨o, ho, rfl⟩)⟩
  have cnS : CnS (gtW R s cost) (plW R s cost) F fo (s 5) (fun e => (sr e).toNatClampNeg) (fun e => (ct e).toNatClampNeg) (fun e => (rw e).toBitVec.toNat) (pinW R s cost) (ondF R) (chF R s) := by
    refine ⟨fun g p hg hp => ?_, fun o ho => ?_⟩
    · obtain ⟨_, hA⟩ := hR g hg (Nat.zero_le _)
      obtain ⟨y1, y2, y3, y4⟩ := hA p hp
      exact row _ _ (gp g p hg hp).2.1 y1 y3 y4
    · obtain ⟨y1, y2, y3, y4⟩ := hO o ho
      exact row _ _ (op o ho).1 y1 y3 y4
  have each : ∀ e, e < fo + s 5 → ∃ x, x < s 1 ∧ (needF R s x = true ∨ ((kdF R x = 2 ∨ kdF R x = 3) → gtW R s cost x)) ∧ sr e = nI (chF R s x).1 ∧ ct e = nI (chF R s x).2.1 ∧ rw e = lN (chF R s x).2.2 := fun e he => by
    by_cases c : e < fo
    · obtain ⟨g, p, hg, _, hp, rfl⟩ := f2 e c
      obtain ⟨_, hA⟩ := hR g hg (Nat.zero_le _)
      obtain ⟨y1, y2, y3, y4⟩ := hA p hp
      obtain ⟨z1, z2, z3⟩ := gp g p hg hp
      exact ⟨_, z2, .inr z3, y1, y3, y4⟩
    · have := hO (e - fo) (by omega)
      rw [show fo + (e - fo) = e by omega] at this
      obtain ⟨y1, y2, y3, y4⟩ := this
      obtain ⟨z1, z2⟩ := op (e - fo) (by omega)
      exact ⟨_, z1, .inl z2, y1, y3, y4⟩
  refine ⟨sr, tg, ct, fg, rw, fun e => (sr e).toNatClampNeg, fun e => (ct e).toNatClampNeg, fun e => (rw e).toBitVec.toNat, fun e => (tg e).toNatClampNeg, w31, w32, w33, w34, w35, ⟨⟨n1, hfo, n5, dW_le R s cost⟩, fun g hg => ?_, fun e he => ?_, fun g g' p p' hg hg' hp hp' e => ?_, fun e he => ?_, fun g p hg hp hz => ?_⟩, cnS, fun e he => ?_, fun g p hg hp => ?_, fun g hg => (hR g hg (Nat.zero_le _)).1, fun o ho => (hO o ho).2.1⟩
  · obtain ⟨a1, _, a3, _, _, _, a7, _⟩ := g1 g hg
    refine ⟨a1, a7, f1 g hg (Nat.zero_le _), fun z => ?_⟩
    unfold kdF at a3
    rw [z] at a3
    exact absurd a3 (by decide)
  · obtain ⟨g, p, hg, _, hp, rfl⟩ := f2 e he
    obtain ⟨_, hA⟩ := hR g hg (Nat.zero_le _)
    obtain ⟨y1, y2, y3, y4⟩ := hA p hp
    refine ⟨g, p, hg, hp, rfl, ?_⟩
    show (tg (F g + p)).toNatClampNeg = g
    rw [y2, nI_clamp (by have := (g1 g hg).1; omega)]
  · by_cases q : g = g'
    · subst q
      exact ⟨rfl, by omega⟩
    · have hp : p < (pinW R s cost g).length := hp
      have hp' : p' < (pinW R s cost g').length := hp'
      rcases f3 g g' hg hg' (Nat.zero_le _) (Nat.zero_le _) q with z | z <;> omega
  · obtain ⟨x, hx, hx2, y1, y3, y4⟩ := each e he
    obtain ⟨c1, c2, c3, c4, c5⟩ := hch x hx
    obtain ⟨r1, r2, r3⟩ := row e x hx y1 y3 y4
    show (sr e).toNatClampNeg < s 1 ∧ (ct e).toNatClampNeg ≤ 6 ∧ (rw e).toBitVec.toNat < 2 ^ (ct e).toNatClampNeg ∧ (gtW R s cost (sr e).toNatClampNeg ∨ R 2 (sr e).toNatClampNeg = 0)
    rw [r1, r2, r3]
    exact ⟨c1, c3, c4, src x hx hx2⟩
  · obtain ⟨q1, q2, q3⟩ := cnS.1 g p hg hp
    obtain ⟨z1, z2, z3⟩ := gp g p hg hp
    obtain ⟨c1, c2, c3, c4, c5⟩ := hch _ z2
    have hz : (chF R s (pinI (pinW R s cost g) p)).2.1 = 0 := q2.symm.trans hz
    have q1 : (sr (F g + p)).toNatClampNeg = _ := q1
    show (sr (F g + p)).toNatClampNeg < g
    rw [q1]
    rcases c5 with ⟨_, e⟩ | ⟨y, _⟩
    · rw [e]; exact z1
    · exact absurd hz y
  · obtain ⟨x, hx, hx2, y1, y3, y4⟩ := each e he
    obtain ⟨r1, r2, r3⟩ := row e x hx y1 y3 y4
    show sr e = nI (sr e).toNatClampNeg ∧ ct e = nI (ct e).toNatClampNeg ∧ rw e = lN (rw e).toBitVec.toNat
    rw [r1, r2, r3]
    exact ⟨y1, y3, y4⟩
  · obtain ⟨_, hA⟩ := hR g hg (Nat.zero_le _)
    exact (hA p hp).2.1
