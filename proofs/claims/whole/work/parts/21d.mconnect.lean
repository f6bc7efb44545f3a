/-! Connections: the reference. Own work. -/
def FbM (H : Gr) (fi no : Nat → Int32) (fb : Nat → Nat) : Prop := ∀ m, m < H.1 → laN H m = true → fi (no m).toNatClampNeg = nI (fb m) ∧ fb m < 2
theorem chnM_lt {H : Gr} {na dr no : Nat → Int32} {nx fb : Nat → Nat} {m : Nat} (hD : DrvM H na dr no nx) (hm : m < H.1) : ∀ k, (chn (laN H) nx fb m k).1 < H.1
  | 0 => hm
  | k + 1 => by
    have ih := chnM_lt hD hm (fb := fb) k
    cases e : laN H (chn (laN H) nx fb m k).1
    · rw [chn_f e]; exact ih
    · rw [chn_t e]; exact (hD _ ih e).2.2.2
set_option maxHeartbeats 8000000 in
theorem mcon_loop {w : cx_W} {H : Gr} {at_ m : Nat} {x0 x1 x2 x3 x4 x5 x6 x7 x8 x9 : Int32} {na dr no fi so la_ : Nat → Int32} {st0 : Nat → Int64} {nx fb : Nat → Nat} {dd : Nat} (h45 : w 45 = oM x0 x1 x2 x3 x4 x5 x6 x7 x8 x9) (h47 : w 47 = ai 40 na) (h48 : w 48 = ai 40 fi) (h50 : w 50 = ai 40 dr) (h56 : w 56 = ai 48 H.2.1) (h59 : w 59 = ai 48 no) (hn : H.1 ≤ 48) (hD : DrvM H na dr no nx) (hF : FbM H fi no fb) (h73 : w 73 = ai 196 so) (h74 : w 74 = ai 196 la_) (h75 : w 75 = al 196 st0) (hat : at_ < 196) (hm : m < H.1) :
    ∀ (r k : Nat) (l8 : Option Value), k + r = 7 → (∀ j, j < k → laN H (chn (laN H) nx fb m j).1 = true) →
    cx_OK none mM_connect dd 0 0 (fun r w2 _ => r = none ∧ w2 73 = ai 196 (upd so at_ (nI (chn (laN H) nx fb m 7).1)) ∧ w2 74 = ai 196 (upd la_ at_ (nI (chn (laN H) nx fb m 7).2.1)) ∧ w2 75 = al 196 (vp_updL st0 at_ (lN (chn (laN H) nx fb m 7).2.2)) ∧ ∀ k, ¬ k = 73 ∧ ¬ k = 74 ∧ ¬ k = 75 → w2 k = w k)
      11 [some (.ref 45), some (.int (nI at_)), some (.int (nI m)), some (.int (nI (chn (laN H) nx fb m k).1)), some (.int (nI k)), some (.long (lN (chn (laN H) nx fb m k).2.2)), none, some (.int (nI k)), l8] [] w (87, 0, 0) := by
  have vz : vp_in (nI at_) 196 := nI_in hat (by decide)
  have fin : ∀ k, k ≤ 7 → (∀ j, j < k → laN H (chn (laN H) nx fb m j).1 = true) → (k = 7 ∨ laN H (chn (laN H) nx fb m k).1 = false) → chn (laN H) nx fb m 7 = chn (laN H) nx fb m k ∧ (chn (laN H) nx fb m k).2.1 = k := by
    intro k hk hj h
    refine ⟨?_, chn_cnt k hj⟩
    rcases h with e | e
    · rw [e]
    · have := chn_more e (7 - k)
      rwa [show k + (7 - k) = 7 by omega] at this
  intro r
  induction r with
  | zero =>
    intro k l8 hk hj
    have e : k = 7 := by omega
    subst e
    have ⟨f1, f2⟩ := fin 7 (by omega) hj (.inl rfl)
    have E : ((7 : Int32) ≤ nI 7) = True := eq_true (by decide)
    refine cx_run 100 mM_connect_mo ?_
    simp (decide := true) only [BmM_connect, h45, h73, h74, h75, E, vz, nI_clamp (n := at_) (by omega), f2, EV, EW, CT, ev_o, ev_is, ev_gd, List.length_cons, List.length_nil, Nat.reduceLT, Nat.reduceAdd, Nat.reduceEqDiff, Nat.reduceLeDiff, Int32.reduceLT, Int32.reduceLE, reduceIte, true_and, and_true, true_or, or_true, not_true_eq_false, not_false_eq_true, false_imp_iff, true_imp_iff, implies_true]
    exact fun k q => by simp (disch := omega) only [if_neg]
  | succ r ih =>
    intro k l8 hk hj
    have hlt := chnM_lt (fb := fb) hD hm k
    have v1 : vp_in (nI (chn (laN H) nx fb m k).1) 48 := nI_in (by omega) (by decide)
    have E : ((7 : Int32) ≤ nI k) = False := (le7 (by omega)).trans (eq_false (by omega))
    refine cx_run 100 mM_connect_mo ?_
    cases q : laN H (chn (laN H) nx fb m k).1
    · have ⟨f1, f2⟩ := fin k (by omega) hj (.inr q)
      have q1 := laN_f q
      rw [f1, f2]
      simp (decide := true) only [BmM_connect, h45, h56, h73, h74, h75, E, v1, vz, q1, nI_clamp (n := at_) (by omega), nI_clamp (n := (chn (laN H) nx fb m k).1) (by omega), EV, EW, CT, ev_o, ev_is, ev_gd, List.length_cons, List.length_nil, Nat.reduceLT, Nat.reduceAdd, Nat.reduceEqDiff, Nat.reduceLeDiff, Int32.reduceLT, Int32.reduceLE, reduceIte, true_and, and_true, true_or, or_true, not_true_eq_false, not_false_eq_true, false_imp_iff, true_imp_iff, implies_true]
      exact fun k q => by simp (disch := omega) only [if_neg]
    · have q1 := laN_t q
      have ⟨o1, o2, o3, o4⟩ := hD _ hlt q
      have ⟨b1, b2⟩ := hF _ hlt q
      have el := l_push (a := (chn (laN H) nx fb m k).2.2) (b := fb (chn (laN H) nx fb m k).1) b2
      have nxt := ih (k + 1) (some (.int (no (chn (laN H) nx fb m k).1))) (by omega) (fun j hj2 => by
        by_cases e : j = k
        · rw [e]; exact q
        · exact hj j (by omega))
      rw [chn_t q] at nxt
      simp (decide := true) only [BmM_connect, h45, h47, h48, h50, h56, h59, E, v1, q1, o1, o2, o3, b1, el, nI_clamp (n := (chn (laN H) nx fb m k).1) (by omega), nI_1, EV, EW, CT, ev_o, ev_is, ev_gd, List.length_cons, List.length_nil, Nat.reduceLT, Nat.reduceAdd, Nat.reduceEqDiff, Nat.reduceLeDiff, Int32.reduceLT, Int32.reduceLE, reduceIte, true_and, and_true, true_or, or_true, not_true_eq_false, not_false_eq_true, false_imp_iff, true_imp_iff, implies_true]
      exact nxt
set_option maxHeartbeats 8000000 in
theorem c_M_connect {w : cx_W} {H : Gr} {at_ m : Nat} {x0 x1 x2 x3 x4 x5 x6 x7 x8 x9 : Int32} {na dr no fi so la_ : Nat → Int32} {st0 : Nat → Int64} {nx fb : Nat → Nat} {dd : Nat} (h45 : w 45 = oM x0 x1 x2 x3 x4 x5 x6 x7 x8 x9) (h47 : w 47 = ai 40 na) (h48 : w 48 = ai 40 fi) (h50 : w 50 = ai 40 dr) (h56 : w 56 = ai 48 H.2.1) (h59 : w 59 = ai 48 no) (hn : H.1 ≤ 48) (hD : DrvM H na dr no nx) (hF : FbM H fi no fb) (h73 : w 73 = ai 196 so) (h74 : w 74 = ai 196 la_) (h75 : w 75 = al 196 st0) (hat : at_ < 196) (hm : m < H.1) :
    cx_MC mM_connect dd 0 0 [.ref 45, .int (nI at_), .int (nI m)] w 87 (fun r w2 => r = none ∧ w2 73 = ai 196 (upd so at_ (nI (chn (laN H) nx fb m 7).1)) ∧ w2 74 = ai 196 (upd la_ at_ (nI (chn (laN H) nx fb m 7).2.1)) ∧ w2 75 = al 196 (vp_updL st0 at_ (lN (chn (laN H) nx fb m 7).2.2)) ∧ ∀ k, ¬ k = 73 ∧ ¬ k = 74 ∧ ¬ k = 75 → w2 k = w k) := by
  refine cx_met 60 mM_connect_ok rfl ?_
  show cx_vc 60 none mM_connect dd 0 0 _ _ 0 [some (.ref 45), some (.int (nI at_)), some (.int (nI m)), none, none, none, none, none, none] [] w (87, 0, 0)
  simp only [BmM_connect, EV, EW, CT, ev_o, ev_is, ev_gd, List.length_cons, List.length_nil, Nat.reduceLT, Nat.reduceAdd, Nat.reduceEqDiff, Nat.reduceLeDiff, Int32.reduceLT, Int32.reduceLE, reduceIte, true_and, and_true, true_or, or_true, not_true_eq_false, not_false_eq_true, false_imp_iff, true_imp_iff, implies_true]
  exact mcon_loop h45 h47 h48 h50 h56 h59 hn hD hF h73 h74 h75 hat hm 7 0 none (by omega) (fun j h => by omega)
