/-! The cover of the reference: gates and connections. Printed by gen_21f.py. -/
def gM (n : Nat) (kd : Nat → Nat) (rt : Nat → Bool) (pins : Nat → List Nat) : Nat → Nat → Prop
  | 0, _ => False
  | k + 1, m => gM n kd rt pins k m ∨ (m = n - 1 - k ∧ rt (n - 1 - k) = true) ∨ ((gM n kd rt pins k (n - 1 - k) ∨ rt (n - 1 - k) = true) ∧ m ∈ pins (n - 1 - k) ∧ (kd m = 2 ∨ kd m = 3))
theorem gF_gM {n : Nat} {kd : Nat → Nat} {rt : Nat → Bool} {pins : Nat → List Nat} : ∀ k, k ≤ n → ∀ m, gF n kd rt pins k m ↔ (gM n kd rt pins k m ∨ (m < n - k ∧ rt m = true)) := by
  intro k
  induction k with
  | zero => intro _ m; rw [gF, gM, Nat.sub_zero]; exact ⟨.inr, fun h => h.elim (fun z => z.elim) id⟩
  | succ k ih =>
    intro hk m
    have hi : n - 1 - k < n - k := by omega
    have h1 := ih (by omega) (n - 1 - k)
    have h2 := ih (by omega) m
    rw [gF, gM, h1, h2]
    constructor
    · rintro ((h | ⟨h, r⟩) | ⟨h | ⟨h, r⟩, a, b⟩)
      · exact .inl (.inl h)
      · by_cases e : m = n - 1 - k
        · exact .inl (.inr (.inl ⟨e, e ▸ r⟩))
        · exact .inr ⟨by omega, r⟩
      · exact .inl (.inr (.inr ⟨.inl h, a, b⟩))
      · exact .inl (.inr (.inr ⟨.inr r, a, b⟩))
    · rintro ((h | ⟨h, r⟩ | ⟨h | h, a, b⟩) | ⟨h, r⟩)
      · exact .inl (.inl h)
      · exact .inl (.inr ⟨by omega, h ▸ r⟩)
      · exact .inr ⟨.inl h, a, b⟩
      · exact .inr ⟨.inr ⟨hi, h⟩, a, b⟩
      · exact .inl (.inr ⟨by omega, r⟩)
theorem gM_all {n : Nat} {kd : Nat → Nat} {rt : Nat → Bool} {pins : Nat → List Nat} {m : Nat} : gM n kd rt pins n m ↔ gF n kd rt pins n m := by
  rw [gF_gM n (Nat.le_refl n) m, Nat.sub_self]
  exact ⟨.inl, fun h => h.elim id fun z => by omega⟩
/-- once its turn has come a node's mark stands -/
theorem gF_still {n : Nat} {kd : Nat → Nat} {rt : Nat → Bool} {pins : Nat → List Nat} (hp : ∀ k i, gF n kd rt pins k i → ∀ x, x ∈ pins i → x < i) {m : Nat} : ∀ {j k : Nat}, k + j ≤ n → n - 1 - m ≤ k → (gF n kd rt pins (k + j) m ↔ gF n kd rt pins k m) := by
  intro j
  induction j with
  | zero => intro k _ _; exact Iff.rfl
  | succ j ih =>
    intro k h1 h2
    rw [← Nat.add_assoc, gF, ih (by omega) h2]
    exact ⟨fun h => h.elim id fun z => by have := hp _ _ z.1 m z.2.1; omega, .inl⟩
/-- what the reference's cover leaves -/
def SrcM (chf : Nat → Nat × Nat × Nat) (gt : Nat → Prop) (pins : Nat → List Nat) (so la_ : Nat → Int32) (st : Nat → Int64) (lo : Nat) : Prop :=
  (∀ g, lo ≤ g → gt g → CnM chf so la_ st (4 * g) (pins g) (pins g).length) ∧ ∀ e, e < 192 → ¬ (lo ≤ e / 4 ∧ gt (e / 4) ∧ e % 4 < (pins (e / 4)).length) → so e = -1
def MCov (w2 : cx_W) (chf : Nat → Nat × Nat × Nat) (gt : Nat → Prop) (pins : Nat → List Nat) (oc : Nat) (ond : Nat → Nat) : Prop :=
  ∃ gr so la_ st, w2 70 = az 48 gr ∧ w2 73 = ai 196 so ∧ w2 74 = ai 196 la_ ∧ w2 75 = al 196 st ∧ BR 48 gr gt ∧ SrcM chf gt pins so la_ st 0 ∧
    (∀ k, k < oc → so (192 + k) = nI (chf (ond k)).1 ∧ la_ (192 + k) = nI (chf (ond k)).2.1 ∧ st (192 + k) = lN (chf (ond k)).2.2) ∧ ∀ e, 192 + oc ≤ e → e < 196 → so e = -1
set_option maxHeartbeats 16000000 in
theorem mco_out {w : cx_W} {H : Gr} {kd px py : Nat → Nat} {na dr no fi on gr so0 la0 : Nat → Int32} {st0 : Nat → Int64} {nx fb ond : Nat → Nat} {oc : Nat} {x0 x1 x2 x3 x5 x6 x7 x8 x9 : Int32} {gt : Nat → Prop} {pins : Nat → List Nat} (hW : MkW w H kd px py na dr no fi nx fb) (h45 : w 45 = oM x0 x1 x2 x3 (nI oc) x5 x6 x7 x8 x9) (h60 : w 60 = ai 4 on) (hoc : oc ≤ 4) (hO : OutM H oc na on ond) (h70 : w 70 = az 48 gr) (hB : BR 48 gr gt) (hS : SrcM (fun x => chn (laN H) nx fb x 7) gt pins so0 la0 st0 0) (hs0 : ∀ e, 192 ≤ e → e < 196 → so0 e = -1) (hfin : ∀ g, gt g → g < 48 ∧ (pins g).length ≤ 4) :
    ∀ (m i : Nat) (w1 : cx_W) (so la_ : Nat → Int32) (st : Nat → Int64) (l2 : Option Value), i + m = oc → w1 73 = ai 196 so → w1 74 = ai 196 la_ → w1 75 = al 196 st → (∀ k, ¬ k = 73 ∧ ¬ k = 74 ∧ ¬ k = 75 → w1 k = w k) → (∀ e, ¬ (192 ≤ e ∧ e < 192 + i) → so e = so0 e ∧ la_ e = la0 e ∧ st e = st0 e) → (∀ k, k < i → so (192 + k) = nI (chn (laN H) nx fb (ond k) 7).1 ∧ la_ (192 + k) = nI (chn (laN H) nx fb (ond k) 7).2.1 ∧ st (192 + k) = lN (chn (laN H) nx fb (ond k) 7).2.2) →
    cx_OK none mM_cover 11 0 0 (fun r w2 _ => r = none ∧ MCov w2 (fun x => chn (laN H) nx fb x 7) gt pins oc ond ∧ ∀ k, fr5 k → w2 k = w k) 218 [some (.ref 45), some (.int (nI i)), l2] [] w1 (87, 0, 0) := by
  have hW' := hW
  obtain ⟨h47, h48, h50, h56, h59, hn, hK, hD, hF⟩ := hW
  intro m
  induction m with
  | zero =>
    intro i w1 so la_ st l2 hi h73 h74 h75 hk he hA
    have e : i = oc := by omega
    subst e
    have E := leT (a := i) (b := i) (by omega) (by omega)
    have k45 := (hk 45 (by decide)).trans h45
    refine cx_run 100 mM_cover_mo ?_
    simp (decide := true) only [BmM_cover, k45, E, EV, EW, CT, ev_o, ev_is, ev_gd, List.length_cons, List.length_nil, Nat.reduceLT, Nat.reduceAdd, Nat.reduceEqDiff, Nat.reduceLeDiff, Int32.reduceLT, Int32.reduceLE, reduceIte, true_and, and_true, true_or, or_true, not_true_eq_false, not_false_eq_true, false_imp_iff, true_imp_iff, implies_true]
    refine ⟨⟨gr, so, la_, st, (hk 70 (by decide)).trans h70, h73, h74, h75, hB, ⟨fun g h1 h2 j hj => ?_, fun e h1 h2 => ?_⟩, hA, fun e h1 h2 => ?_⟩, fun k q => hk k (by unfold fr5 at q; omega)⟩
    · have hf := hfin g h2
      have ⟨b1, b2, b3⟩ := he (4 * g + j) (by omega)
      rw [b1, b2, b3]; exact hS.1 g h1 h2 j hj
    · rw [(he e (by omega)).1]; exact hS.2 e h1 h2
    · rw [(he e (by omega)).1]; exact hs0 e (by omega) h2
  | succ m ih =>
    intro i w1 so la_ st l2 hi h73 h74 h75 hk he hA
    have E := leF (a := oc) (b := i) (by omega) (by omega)
    have k45 := (hk 45 (by decide)).trans h45
    have k47 := (hk 47 (by decide)).trans h47
    have k60 := (hk 60 (by decide)).trans h60
    have ⟨o1, o2, o3⟩ := hO i (by omega)
    have v1 : vp_in (nI i) 4 := nI_in (by omega) (by decide)
    have e4 : 192 + nI i = nI (192 + i) := nI_add 192 i
    refine cx_run 100 mM_cover_mo ?_
    simp (decide := true) only [BmM_cover, k45, k47, k60, E, v1, o1, o2, e4, nI_clamp (n := i) (by omega), EV, EW, CT, ev_o, ev_is, ev_gd, List.length_cons, List.length_nil, Nat.reduceLT, Nat.reduceAdd, Nat.reduceEqDiff, Nat.reduceLeDiff, Int32.reduceLT, Int32.reduceLE, reduceIte, true_and, and_true, true_or, or_true, not_true_eq_false, not_false_eq_true, false_imp_iff, true_imp_iff, implies_true]
    refine cx_cs1 9 0 0 (by decide) (c_M_connect (dd := 9) (at_ := 192 + i) (nx := nx) (fb := fb) k45 k47 ((hk 48 (by decide)).trans h48) ((hk 50 (by decide)).trans h50) ((hk 56 (by decide)).trans h56) ((hk 59 (by decide)).trans h59) hn hD hF h73 h74 h75 (by omega) o3) fun r w2 h2 => ?_
    obtain ⟨rfl, a73, a74, a75, ak⟩ := h2
    simp (decide := true) only [BmM_cover, nI_1, EV, EW, CT, ev_o, ev_is, ev_gd, List.length_cons, List.length_nil, Nat.reduceLT, Nat.reduceAdd, Nat.reduceEqDiff, Nat.reduceLeDiff, Int32.reduceLT, Int32.reduceLE, reduceIte, true_and, and_true, true_or, or_true, not_true_eq_false, not_false_eq_true, false_imp_iff, true_imp_iff, implies_true]
    refine ih (i + 1) w2 _ _ _ _ (by omega) a73 a74 a75 (fun k q => (ak k q).trans (hk k q)) (fun e z => ?_) (fun j hj => ?_)
    · have ne : ¬ e = 192 + i := fun q => z ⟨by omega, by omega⟩
      rw [pk_un ne, pk_un ne, pk_uLn ne]
      exact he e fun q => z ⟨q.1, by omega⟩
    · by_cases e : j = i
      · subst e; rw [pk_us, pk_us, pk_uLs]; exact ⟨rfl, rfl, rfl⟩
      · rw [pk_un (by omega), pk_un (by omega), pk_uLn (by omega)]
        exact hA j (by omega)
