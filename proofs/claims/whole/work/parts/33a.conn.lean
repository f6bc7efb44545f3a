/-! Connections and what follows of them: pure. Own work. -/
/-- connections of the mapped circuit: F the first of a gate, fo the first of an output, tf the gate that one leads to -/
def CnP (kz : Nat → Prop) (n : Nat) (gt : Nat → Prop) (pl F : Nat → Nat) (fo oc : Nat) (S L B tf d : Nat → Nat) : Prop :=
  (n ≤ 48 ∧ fo + oc ≤ 196 ∧ oc ≤ 4 ∧ ∀ u, d u ≤ 1000) ∧ (∀ g, gt g → g < n ∧ pl g ≤ 4 ∧ F g + pl g ≤ fo ∧ ¬ kz g) ∧ (∀ e, e < fo → ∃ g p, gt g ∧ p < pl g ∧ e = F g + p ∧ tf e = g) ∧
  (∀ g g' p p', gt g → gt g' → p < pl g → p' < pl g' → F g + p = F g' + p' → g = g' ∧ p = p') ∧ (∀ e, e < fo + oc → S e < n ∧ L e ≤ 6 ∧ B e < 2 ^ L e ∧ (gt (S e) ∨ kz (S e))) ∧ ∀ g p, gt g → p < pl g → L (F g + p) = 0 → S (F g + p) < g
theorem CnP.lt {kz : Nat → Prop} {n : Nat} {gt : Nat → Prop} {pl F : Nat → Nat} {fo oc : Nat} {S L B tf d : Nat → Nat} (h : CnP kz n gt pl F fo oc S L B tf d) {g p : Nat} (hg : gt g) (hp : p < pl g) : F g + p < fo := by
  have := (h.2.1 g hg).2.2.1
  omega
theorem CnP.tf {kz : Nat → Prop} {n : Nat} {gt : Nat → Prop} {pl F : Nat → Nat} {fo oc : Nat} {S L B tf d : Nat → Nat} (h : CnP kz n gt pl F fo oc S L B tf d) {g p : Nat} (hg : gt g) (hp : p < pl g) : tf (F g + p) = g := by
  obtain ⟨g', p', a, b, c, e⟩ := h.2.2.1 _ (h.lt hg hp)
  rw [e]
  exact (h.2.2.2.1 g g' p p' hg a hp b c).1.symm
theorem CnP.H {kz : Nat → Prop} {n : Nat} {gt : Nat → Prop} {pl F : Nat → Nat} {fo oc : Nat} {S L B tf d : Nat → Nat} (h : CnP kz n gt pl F fo oc S L B tf d) : rt_H (EE gt pl (fun g p => S (F g + p)) (fun g p => L (F g + p))) gt d n := by
  have h' := h
  obtain ⟨⟨a1, a2, a3, a4⟩, b, c, e, f, g⟩ := h'
  refine ⟨⟨a1, fun u v ⟨gv, p, hp, hs, gu, hw⟩ => ?_, a4, fun u v w ⟨gv, p, hp, hs, gu, hw⟩ => ⟨(b u gu).1, (b v gv).1⟩, fun u v w ⟨gv, p, hp, hs, gu, hw⟩ => ?_⟩, fun u v w ⟨gv, p, hp, hs, gu, hw⟩ => ⟨gu, gv⟩, fun u hu => (b u hu).1⟩
  · rw [← hs]; exact g v p gv hp hw
  · rw [← hw]; exact (f _ (by have := h.lt gv hp; omega)).2.1
theorem sumN_const (c : Nat) : ∀ n, sumN (fun _ => c) n = c * n
  | 0 => rfl
  | n + 1 => by rw [sumN, sumN_const c n, Nat.mul_succ]
/-- the moves keep every count at 0 or above -/
theorem CnP.leg {kz : Nat → Prop} {n : Nat} {gt : Nat → Prop} {pl F : Nat → Nat} {fo oc : Nat} {S L B tf d mv : Nat → Nat} {P : Int} (hB : rt_B (EE gt pl (fun g p => S (F g + p)) (fun g p => L (F g + p))) (II gt pl (fun g p => S (F g + p)) (fun g p => L (F g + p))) gt d n P (fun u => (mv u : Int))) {g p : Nat} (hg : gt g) (hp : p < pl g) :
    (gt (S (F g + p)) → mv g ≤ mv (S (F g + p)) + L (F g + p)) ∧ (¬ gt (S (F g + p)) → mv g ≤ L (F g + p)) := by
  obtain ⟨_, hl, hi, _⟩ := hB
  have hleg := rt_leg_of_S hl.1
  refine ⟨fun gs => ?_, fun gs => ?_⟩
  · have := hleg (S (F g + p)) g (L (F g + p)) ⟨hg, p, hp, rfl, gs, rfl⟩
    have : (mv g : Int) ≤ (mv (S (F g + p)) : Int) + (L (F g + p) : Int) := this
    omega
  · have := hi g (L (F g + p)) ⟨hg, p, hp, gs, rfl⟩
    have : (mv g : Int) ≤ (L (F g + p) : Int) := this
    omega
theorem CnP.mvh {kz : Nat → Prop} {n : Nat} {gt : Nat → Prop} {pl F : Nat → Nat} {fo oc : Nat} {S L B tf d mv : Nat → Nat} {P : Int} (h : CnP kz n gt pl F fo oc S L B tf d) (hB : rt_B (EE gt pl (fun g p => S (F g + p)) (fun g p => L (F g + p))) (II gt pl (fun g p => S (F g + p)) (fun g p => L (F g + p))) gt d n P (fun u => (mv u : Int))) (h0 : ∀ u, ¬ gt u → mv u = 0) (h47 : ∀ u, mv u ≤ 47) : MvH n gt pl F S L B tf mv fo oc := by
  have h' := h
  obtain ⟨⟨a1, a2, a3, a4⟩, b, c, e, f, g⟩ := h'
  refine ⟨fun u hu => (b u hu).1, h0, h47, ?_, fun x hx => ⟨(f x hx).2.1, (f x hx).2.2.1⟩, fun x hx => ?_, fun u x hu hx => ⟨fun z => ?_, fun z => ?_⟩, g, fun u p hu hp => ?_⟩
  · have := sumN_le (f := mv) (g := fun _ => 47) (n := 48) (fun m _ => h47 m)
    rw [sumN_const] at this
    omega
  · obtain ⟨u, p, hu, hp, _, e2⟩ := c x hx
    rw [e2]; exact hu
  · obtain ⟨u2, p, hu2, hp, e1, e2⟩ := c x hx
    have : u2 = u := e2.symm.trans z
    subst this
    omega
  · have : x = F u + (x - F u) := by omega
    rw [this]; exact h.tf hu (by omega)
  · have l := CnP.leg (kz := kz) (fo := fo) (oc := oc) (B := B) (tf := tf) hB hu hp
    by_cases gs : gt (S (F u + p))
    · exact l.1 gs
    · have := l.2 gs
      omega
/-- the counts behind the moves; which gates read which without a latch -/
theorem CnP.key {kz : Nat → Prop} {n : Nat} {gt : Nat → Prop} {pl F : Nat → Nat} {fo oc : Nat} {S L B tf d mv cn ro tbl : Nat → Nat} (h : CnP kz n gt pl F fo oc S L B tf d) (hs : SM fo oc pl F S L B tbl tf mv cn ro) : (∀ g p, gt g → p < pl g → cn (F g + p) + mv g = L (F g + p) + mv (S (F g + p))) ∧ ∀ g p, gt g → p < pl g → gt (S (F g + p)) → cn (F g + p) = 0 → 48 * mv (S (F g + p)) + S (F g + p) < 48 * mv g + g := by
  have key : ∀ g p, gt g → p < pl g → cn (F g + p) + mv g = L (F g + p) + mv (S (F g + p)) := fun g p hg hp => by
    have hl := h.lt hg hp
    have := (hs (F g + p) (by omega)).1
    unfold tkM at this
    rw [if_pos hl, h.tf hg hp] at this
    exact this
  refine ⟨key, rt_key2 (src := fun g p => S (F g + p)) (lt := fun g p => L (F g + p)) (kp := fun g p => cn (F g + p)) (fun g hg => by have := (h.2.1 g hg).1; have := h.1.1; omega) h.2.2.2.2.2 (fun g p hg hp _ => ?_)⟩
  have := key g p hg hp
  omega
set_option maxHeartbeats 4000000 in
theorem c_Li_covers {w : cx_W} {cc : Nat} {pa ar dl pn nd tb : Nat → Int32} {b : Bool} (hL : LW w cc pa ar dl pn nd tb) (hcc : cc ≤ 8) (hb : b = true ↔ (∃ l, l < cc ∧ pa l = 6) ∧ ∃ l, l < cc ∧ pa l = 23) :
    cx_MC mLi_coversEveryNode 11 0 0 [.ref 13] w 87 (fun r w2 => r = some (.int (if b = true then 1 else 0)) ∧ w2 = w) := by
  have h13 := hL.1
  refine cx_met 60 mLi_coversEveryNode_ok rfl ?_
  show cx_vc 60 none mLi_coversEveryNode 11 0 0 _ _ 0 [some (.ref 13)] [] w (87, 0, 0)
  simp (decide := true) only [BmLi_coversEveryNode, h13, EV, EW, CT, ev_o, ev_is, ev_gd, List.length_cons, List.length_nil, Nat.reduceLT, Nat.reduceAdd, Nat.reduceEqDiff, Nat.reduceLeDiff, Int32.reduceLT, Int32.reduceLE, reduceIte, true_and, and_true, true_or, or_true, not_true_eq_false, not_false_eq_true, false_imp_iff, true_imp_iff, implies_true]
  by_cases c1 : ∃ l, l < cc ∧ pa l = 6
  · refine cx_cs1 10 0 0 (by decide) (c_Li_hasPattern (dd := 10) (b := true) hL hcc ⟨fun _ => c1, fun _ => rfl⟩) fun r w2 h => ?_
    obtain ⟨rfl, rfl⟩ := h
    simp (decide := true) only [BmLi_coversEveryNode, h13, EV, EW, CT, ev_o, ev_is, ev_gd, List.length_cons, List.length_nil, Nat.reduceLT, Nat.reduceAdd, Nat.reduceEqDiff, Nat.reduceLeDiff, Int32.reduceLT, Int32.reduceLE, reduceIte, true_and, and_true, true_or, or_true, not_true_eq_false, not_false_eq_true, false_imp_iff, true_imp_iff, implies_true]
    by_cases c2 : ∃ l, l < cc ∧ pa l = 23
    · refine cx_cs1 10 0 0 (by decide) (c_Li_hasPattern (dd := 10) (b := true) hL hcc ⟨fun _ => c2, fun _ => rfl⟩) fun r w3 h => ?_
      obtain ⟨rfl, rfl⟩ := h
      have e : b = true := hb.mpr ⟨c1, c2⟩
      subst e
      simp (decide := true) only [BmLi_coversEveryNode, EV, EW, CT, ev_o, ev_is, ev_gd, List.length_cons, List.length_nil, Nat.reduceLT, Nat.reduceAdd, Nat.reduceEqDiff, Nat.reduceLeDiff, Int32.reduceLT, Int32.reduceLE, reduceIte, true_and, and_true, true_or, or_true, not_true_eq_false, not_false_eq_true, false_imp_iff, true_imp_iff, implies_true]
    · refine cx_cs1 10 0 0 (by decide) (c_Li_hasPattern (dd := 10) (b := false) hL hcc ⟨fun z => (by cases z), fun z => absurd z c2⟩) fun r w3 h => ?_
      obtain ⟨rfl, rfl⟩ := h
      have e : b = false := by
        cases b
        · rfl
        · exact absurd (hb.mp rfl).2 c2
      subst e
      simp (decide := true) only [BmLi_coversEveryNode, EV, EW, CT, ev_o, ev_is, ev_gd, List.length_cons, List.length_nil, Nat.reduceLT, Nat.reduceAdd, Nat.reduceEqDiff, Nat.reduceLeDiff, Int32.reduceLT, Int32.reduceLE, reduceIte, true_and, and_true, true_or, or_true, not_true_eq_false, not_false_eq_true, false_imp_iff, true_imp_iff, implies_true]
  · refine cx_cs1 10 0 0 (by decide) (c_Li_hasPattern (dd := 10) (b := false) hL hcc ⟨fun z => (by cases z), fun z => absurd z c1⟩) fun r w2 h => ?_
    obtain ⟨rfl, rfl⟩ := h
    have e : b = false := by
      cases b
      · rfl
      · exact absurd (hb.mp rfl).1 c1
    subst e
    simp (decide := true) only [BmLi_coversEveryNode, EV, EW, CT, ev_o, ev_is, ev_gd, List.length_cons, List.length_nil, Nat.reduceLT, Nat.reduceAdd, Nat.reduceEqDiff, Nat.reduceLeDiff, Int32.reduceLT, Int32.reduceLE, reduceIte, true_and, and_true, true_or, or_true, not_true_eq_false, not_false_eq_true, false_imp_iff, true_imp_iff, implies_true]
