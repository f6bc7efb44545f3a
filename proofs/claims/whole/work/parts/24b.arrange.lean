/-! Arranging the gates: the given side. Own work. -/
/-- an order: each gate once, behind those that reach it without a latch -/
def OrI (gt : Nat → Prop) (pl F S cn : Nat → Nat) (PL : Nat → Prop) (or_ : Nat → Int32) (od : Nat → Nat) (c : Nat) : Prop :=
  (∀ k, k < c → or_ k = nI (od k) ∧ gt (od k) ∧ ∀ p, p < pl (od k) → cn (F (od k) + p) = 0 → gt (S (F (od k) + p)) → ∃ j, j < k ∧ od j = S (F (od k) + p)) ∧ (∀ g, PL g ↔ ∃ k, k < c ∧ od k = g) ∧ ∀ i j, i < c → j < c → od i = od j → i = j
def setN (od : Nat → Nat) (c g k : Nat) : Nat := if k = c then g else od k
theorem setN_s (od : Nat → Nat) (c g : Nat) : setN od c g c = g := if_pos rfl
theorem setN_n (od : Nat → Nat) {c g k : Nat} (h : ¬ k = c) : setN od c g k = od k := if_neg h
theorem cnt_put {P : Nat → Prop} {g : Nat} (hg : ¬ P g) : ∀ {n : Nat}, g < n → rt_cnt (fun u => P u ∨ u = g) n = rt_cnt P n + 1 := by
  have z : ∀ n, n ≤ g → rt_cnt (fun u => P u ∨ u = g) n = rt_cnt P n := by
    intro n
    induction n with
    | zero => intro _; rfl
    | succ n ih =>
      intro h
      rw [rt_cnt, rt_cnt, ih (by omega)]
      congr 1
      by_cases q : P n
      · rw [if_pos (.inl q), if_pos q]
      · rw [if_neg (fun y => y.elim q fun e => by omega), if_neg q]
  intro n
  induction n with
  | zero => intro h; omega
  | succ n ih =>
    intro h
    rw [rt_cnt, rt_cnt]
    by_cases e : n = g
    · subst e; rw [z n (Nat.le_refl _), if_pos (.inr rfl), if_neg hg]
    · rw [ih (by omega)]
      by_cases q : P n
      · rw [if_pos (.inl q), if_pos q]
        try omega
      · rw [if_neg (fun y => y.elim q e), if_neg q]
        try omega
set_option maxHeartbeats 16000000 in
theorem ar_in {w : cx_W} {n : Nat} {gt PL0 : Nat → Prop} {pl F : Nat → Nat} {fo oc : Nat} {S tbl cn key : Nat → Nat} {gs ch pn tb sr fg gm ct : Nat → Int32} {rd : Nat} {Q : cx_Q} (hA : ArW w n gt pl F fo oc S tbl cn gs ch pn tb sr fg gm ct) (hkey : ∀ g p, gt g → p < pl g → gt (S (F g + p)) → cn (F g + p) = 0 → key (S (F g + p)) < key g)
    (hQ : ∀ (w1 : cx_W) (pr or_ : Nat → Int32) (od : Nat → Nat) (PL : Nat → Prop) (l3 l4 : Option Value), w1 43 = az 48 pr → w1 42 = ai 48 or_ → (∀ k, ¬ k = 42 ∧ ¬ k = 43 → w1 k = w k) → BR 48 pr PL → (∀ g, PL g → gt g) → OrI gt pl F S cn PL or_ od (rt_cnt PL n) → (rt_cnt PL0 n + 1 ≤ rt_cnt PL n ∨ ∀ g, gt g → PL g) →
      cx_OK none mMa_arrange 10 0 0 Q 25 [some (.ref 40), some (.int (nI (rt_cnt PL n))), some (.int (nI (rd + 1))), l3, l4] [] w1 (87, 0, 0)) :
    ∀ (m i : Nat) (w1 : cx_W) (pr or_ : Nat → Int32) (od : Nat → Nat) (PL : Nat → Prop) (l4 : Option Value), i + m = rt_cnt gt n → w1 43 = az 48 pr → w1 42 = ai 48 or_ → (∀ k, ¬ k = 42 ∧ ¬ k = 43 → w1 k = w k) → BR 48 pr PL → (∀ g, PL g → gt g) → OrI gt pl F S cn PL or_ od (rt_cnt PL n) → (rt_cnt PL0 n + 1 ≤ rt_cnt PL n ∨ (rt_cnt PL0 n ≤ rt_cnt PL n ∧ ∀ g, gt g → rt_cnt gt g < i → ¬ PL g → ¬ ∀ p, p < pl g → cn (F g + p) = 0 → gt (S (F g + p)) → PL (S (F g + p)))) →
      cx_OK none mMa_arrange 10 0 0 Q 44 [some (.ref 40), some (.int (nI (rt_cnt PL n))), some (.int (nI rd)), some (.int (nI i)), l4] [] w1 (87, 0, 0) := by
  have hA' := hA
  obtain ⟨⟨⟨hn, ⟨x13, h13⟩, h17, h19, h20, h24, h29, h30, h31, h35⟩, hG, hfo, hgd, hinj, hsr⟩, h1, h28, hB, h33, hct, h40⟩ := hA
  have hcl := rt_cnt_le gt n
  intro m
  induction m with
  | zero =>
    intro i w1 pr or_ od PL l4 hi h43 h42 hk hpr hpg hO hI
    have E := leT (a := rt_cnt gt n) (b := i) (by omega) (by omega)
    have k40 := (hk 40 (by decide)).trans h40
    have k20 := (hk 20 (by decide)).trans h20
    refine cx_run 100 mMa_arrange_mo ?_
    simp (decide := true) only [BmMa_arrange, BSC, k40, k20, E, nI_1, EV, EW, CT, ev_o, ev_is, ev_gd, List.length_cons, List.length_nil, Nat.reduceLT, Nat.reduceAdd, Nat.reduceEqDiff, Nat.reduceLeDiff, Int32.reduceLT, Int32.reduceLE, reduceIte, true_and, and_true, true_or, or_true, not_true_eq_false, not_false_eq_true, false_imp_iff, true_imp_iff, implies_true]
    refine hQ w1 pr or_ od PL _ _ h43 h42 hk hpr hpg hO ?_
    rcases hI with h | ⟨_, h⟩
    · exact .inl h
    · refine .inr fun g hg => Classical.byContradiction fun hno => ?_
      obtain ⟨g', a, b, c⟩ := rt_prog2 (gt := gt) (pl := PL) (pn := pl) (src := fun g p => S (F g + p)) (kp := fun g p => cn (F g + p)) (key := key) hkey ⟨g, hg, hno⟩
      exact h g' a (by have := rt_cnt_up a (hgd g' a).1; omega) b fun p hp hz hs => c p hp hs hz
  | succ m ih =>
    intro i w1 pr or_ od PL l4 hi h43 h42 hk hpr hpg hO hI
    have E := leF (a := rt_cnt gt n) (b := i) (by omega) (by omega)
    have k40 := (hk 40 (by decide)).trans h40
    have k20 := (hk 20 (by decide)).trans h20
    have k29 := (hk 29 (by decide)).trans h29
    have v1 : vp_in (nI i) 48 := nI_in (by omega) (by decide)
    obtain ⟨g, g1, g2, g3, g4⟩ := hG.at (show i < rt_cnt gt n by omega)
    have vg : vp_in (nI g) 48 := nI_in (by omega) (by decide)
    have stay : (PL g ∨ ¬ ∀ p, p < pl g → cn (F g + p) = 0 → gt (S (F g + p)) → PL (S (F g + p))) → ∀ l4, cx_OK none mMa_arrange 10 0 0 Q 44 [some (.ref 40), some (.int (nI (rt_cnt PL n))), some (.int (nI rd)), some (.int (nI (i + 1))), l4] [] w1 (87, 0, 0) := fun hno l4 =>
      ih (i + 1) w1 pr or_ od PL l4 (by omega) h43 h42 hk hpr hpg hO (hI.imp id fun ⟨h1, h2⟩ => ⟨h1, fun g' hg' hl hp => by
        by_cases e : g' = g
        · rw [e] at hp ⊢; exact hno.resolve_left hp
        · exact h2 g' hg' (by
            by_cases e2 : rt_cnt gt g' = i
            · exact absurd (rt_cnt_inj hg' g2 (e2.trans g3.symm)) e
            · omega) hp⟩)
    refine cx_run 100 mMa_arrange_mo ?_
    by_cases plc : PL g
    · have FP : pr g = 1 := (hpr g (by omega)).1 plc
      simp (decide := true) only [BmMa_arrange, BSC, k40, k20, k29, h43, E, v1, vg, g4, FP, nI_clamp (n := i) (by omega), nI_clamp (n := g) (by omega), nI_1, EV, EW, CT, ev_o, ev_is, ev_gd, List.length_cons, List.length_nil, Nat.reduceLT, Nat.reduceAdd, Nat.reduceEqDiff, Nat.reduceLeDiff, Int32.reduceLT, Int32.reduceLE, reduceIte, true_and, and_true, true_or, or_true, not_true_eq_false, not_false_eq_true, false_imp_iff, true_imp_iff, implies_true]
      exact stay (.inl plc) _
    · have FP : pr g = 0 := (hpr g (by omega)).2 plc
      simp (decide := true) only [BmMa_arrange, BSC, k40, k20, k29, h43, E, v1, vg, g4, FP, nI_clamp (n := i) (by omega), nI_clamp (n := g) (by omega), EV, EW, CT, ev_o, ev_is, ev_gd, List.length_cons, List.length_nil, Nat.reduceLT, Nat.reduceAdd, Nat.reduceEqDiff, Nat.reduceLeDiff, Int32.reduceLT, Int32.reduceLE, reduceIte, true_and, and_true, true_or, or_true, not_true_eq_false, not_false_eq_true, false_imp_iff, true_imp_iff, implies_true]
      have hA1 := hA'.of (w1 := w1) fun k q => hk k (by omega)
      by_cases rdy : ∀ p, p < pl g → cn (F g + p) = 0 → gt (S (F g + p)) → PL (S (F g + p))
      · refine cx_cs1 9 0 0 (by decide) (c_Ma_isReady (dd := 6) (b := true) hA1 h43 hpr g2 ⟨fun _ => rdy, fun _ => rfl⟩) fun r_ w2 h2 => ?_
        obtain ⟨rfl, rfl⟩ := h2
        have hlt : rt_cnt PL n < rt_cnt gt n := rt_cnt_lt (fun u _ h => hpg u h) g1 g2 plc
        have vc : vp_in (nI (rt_cnt PL n)) 48 := nI_in (by omega) (by decide)
        have ec := cnt_put plc g1
        simp (decide := true) only [BmMa_arrange, k40, h43, h42, vg, vc, nI_clamp (n := g) (by omega), nI_clamp (n := rt_cnt PL n) (by omega), nI_1, EV, EW, CT, ev_o, ev_is, ev_gd, List.length_cons, List.length_nil, Nat.reduceLT, Nat.reduceAdd, Nat.reduceEqDiff, Nat.reduceLeDiff, Int32.reduceLT, Int32.reduceLE, reduceIte, true_and, and_true, true_or, or_true, not_true_eq_false, not_false_eq_true, false_imp_iff, true_imp_iff, implies_true]
        have nx := ih (i + 1) (cx_up (cx_up w2 43 (az 48 (upd pr g 1))) 42 (ai 48 (upd or_ (rt_cnt PL n) (nI g)))) (upd pr g 1) (upd or_ (rt_cnt PL n) (nI g)) (setN od (rt_cnt PL n) g) (fun u => PL u ∨ u = g) (some (.int (nI g))) (by omega) (by simp only [cx_up, Nat.reduceEqDiff, reduceIte]) (by simp only [cx_up, Nat.reduceEqDiff, reduceIte]) (fun k z => by rw [← hk k z]; simp (disch := omega) only [cx_up, if_neg]) hpr.set (fun u h => h.elim (hpg u) fun e => by rw [e]; exact g2) ?_ (.inl (by rw [ec]; rcases hI with h | ⟨h, _⟩ <;> omega))
        · rw [ec] at nx
          exact nx
        · rw [ec]
          obtain ⟨o1, o2, o3⟩ := hO
          refine ⟨fun k hk2 => ?_, fun u => ?_, fun a b ha hb2 he => ?_⟩
          · by_cases e : k = rt_cnt PL n
            · subst e
              rw [setN_s]
              refine ⟨pk_us, g2, fun p hp hz hs => ?_⟩
              obtain ⟨j, j1, j2⟩ := (o2 _).mp (rdy p hp hz hs)
              exact ⟨j, j1, (setN_n od (by omega)).trans j2⟩
            · rw [setN_n od e]
              obtain ⟨p1, p2, p3⟩ := o1 k (by omega)
              refine ⟨by rw [pk_un e]; exact p1, p2, fun p hp hz hs => ?_⟩
              obtain ⟨j, j1, j2⟩ := p3 p hp hz hs
              exact ⟨j, j1, (setN_n od (by omega)).trans j2⟩
          · constructor
            · rintro (h | h)
              · obtain ⟨k, k1, k2⟩ := (o2 u).mp h
                exact ⟨k, by omega, (setN_n od (by omega)).trans k2⟩
              · exact ⟨rt_cnt PL n, by omega, (setN_s od _ _).trans h.symm⟩
            · rintro ⟨k, k1, k2⟩
              by_cases e : k = rt_cnt PL n
              · rw [e, setN_s] at k2; exact .inr k2.symm
              · rw [setN_n od e] at k2; exact .inl ((o2 u).mpr ⟨k, by omega, k2⟩)
          · by_cases ea : a = rt_cnt PL n
            · by_cases eb : b = rt_cnt PL n
              · omega
              · rw [ea, setN_s, setN_n od eb] at he
                exact absurd ((o2 g).mpr ⟨b, by omega, he.symm⟩) plc
            · by_cases eb : b = rt_cnt PL n
              · rw [eb, setN_s, setN_n od ea] at he
                exact absurd ((o2 g).mpr ⟨a, by omega, he⟩) plc
              · rw [setN_n od ea, setN_n od eb] at he
                exact o3 a b (by omega) (by omega) he
      · refine cx_cs1 9 0 0 (by decide) (c_Ma_isReady (dd := 6) (b := false) hA1 h43 hpr g2 ⟨fun z => (by cases z), fun z => absurd z rdy⟩) fun r_ w2 h2 => ?_
        obtain ⟨rfl, rfl⟩ := h2
        simp (decide := true) only [BmMa_arrange, Bool.false_eq_true, nI_1, EV, EW, CT, ev_o, ev_is, ev_gd, List.length_cons, List.length_nil, Nat.reduceLT, Nat.reduceAdd, Nat.reduceEqDiff, Nat.reduceLeDiff, Int32.reduceLT, Int32.reduceLE, reduceIte, true_and, and_true, true_or, or_true, not_true_eq_false, not_false_eq_true, false_imp_iff, true_imp_iff, implies_true]
        exact stay (.inr rdy) _
set_option maxHeartbeats 16000000 in
theorem ar_out {w : cx_W} {n : Nat} {gt : Nat → Prop} {pl F : Nat → Nat} {fo oc : Nat} {S tbl cn key : Nat → Nat} {gs ch pn tb sr fg gm ct : Nat → Int32} (hA : ArW w n gt pl F fo oc S tbl cn gs ch pn tb sr fg gm ct) (hkey : ∀ g p, gt g → p < pl g → gt (S (F g + p)) → cn (F g + p) = 0 → key (S (F g + p)) < key g) :
    ∀ (m rd : Nat) (w1 : cx_W) (pr or_ : Nat → Int32) (od : Nat → Nat) (PL : Nat → Prop) (l3 l4 : Option Value), rd + m = 48 → w1 43 = az 48 pr → w1 42 = ai 48 or_ → (∀ k, ¬ k = 42 ∧ ¬ k = 43 → w1 k = w k) → BR 48 pr PL → (∀ g, PL g → gt g) → OrI gt pl F S cn PL or_ od (rt_cnt PL n) → (rd ≤ rt_cnt PL n ∨ ∀ g, gt g → PL g) →
      cx_OK none mMa_arrange 10 0 0 (fun r_ w2 _ => r_ = none ∧ (∃ pr or_ od, w2 43 = az 48 pr ∧ w2 42 = ai 48 or_ ∧ OrI gt pl F S cn gt or_ od (rt_cnt gt n)) ∧ ∀ k, ¬ k = 42 ∧ ¬ k = 43 → w2 k = w k) 25 [some (.ref 40), some (.int (nI (rt_cnt PL n))), some (.int (nI rd)), l3, l4] [] w1 (87, 0, 0) := by
  have hA' := hA
  obtain ⟨⟨⟨hn, ⟨x13, h13⟩, h17, h19, h20, h24, h29, h30, h31, h35⟩, hG, hfo, hgd, hinj, hsr⟩, h1, h28, hB, h33, hct, h40⟩ := hA
  have hcl := rt_cnt_le gt n
  have full : ∀ {PL : Nat → Prop}, (∀ g, PL g → gt g) → rt_cnt gt n ≤ rt_cnt PL n → ∀ g, gt g → PL g := fun {PL} h1 h2 g hg => Classical.byContradiction fun hno => by
    have := rt_cnt_lt (p := PL) (q := gt) (n := n) (fun u _ h => h1 u h) (hgd g hg).1 hg hno
    omega
  have fin : ∀ (w1 : cx_W) (pr or_ : Nat → Int32) (od : Nat → Nat) (PL : Nat → Prop), w1 43 = az 48 pr → w1 42 = ai 48 or_ → (∀ k, ¬ k = 42 ∧ ¬ k = 43 → w1 k = w k) → (∀ g, PL g → gt g) → OrI gt pl F S cn PL or_ od (rt_cnt PL n) → (∀ g, gt g → PL g) → (∃ pr or_ od, w1 43 = az 48 pr ∧ w1 42 = ai 48 or_ ∧ OrI gt pl F S cn gt or_ od (rt_cnt gt n)) ∧ ∀ k, ¬ k = 42 ∧ ¬ k = 43 → w1 k = w k := by
    intro w1 pr or_ od PL a b c d e f
    have eP : PL = gt := funext fun u => propext ⟨d u, f u⟩
    rw [eP] at e
    exact ⟨⟨pr, or_, od, a, b, e⟩, c⟩
  intro m
  induction m with
  | zero =>
    intro rd w1 pr or_ od PL l3 l4 hm h43 h42 hk hpr hpg hO hI
    have e : rd = 48 := by omega
    subst e
    have all : ∀ g, gt g → PL g := hI.elim (fun h => full hpg (by omega)) id
    have E : ((48 : Int32) ≤ nI 48) = True := eq_true (by decide)
    refine cx_run 100 mMa_arrange_mo ?_
    simp (decide := true) only [BmMa_arrange, E, EV, EW, CT, ev_o, ev_is, ev_gd, List.length_cons, List.length_nil, Nat.reduceLT, Nat.reduceAdd, Nat.reduceEqDiff, Nat.reduceLeDiff, Int32.reduceLT, Int32.reduceLE, reduceIte, true_and, and_true, true_or, or_true, not_true_eq_false, not_false_eq_true, false_imp_iff, true_imp_iff, implies_true]
    exact fin w1 pr or_ od PL h43 h42 hk hpg hO all
  | succ m ih =>
    intro rd w1 pr or_ od PL l3 l4 hm h43 h42 hk hpr hpg hO hI
    have E : ((48 : Int32) ≤ nI rd) = False := (lek (a := rd) (c := 48) (x := 48) rfl (by omega) (by decide)).trans (eq_false (by omega))
    have k40 := (hk 40 (by decide)).trans h40
    have k20 := (hk 20 (by decide)).trans h20
    have hPn := rt_cnt_le PL n
    refine cx_run 100 mMa_arrange_mo ?_
    by_cases q : rt_cnt gt n ≤ rt_cnt PL n
    · have EU := leT (a := rt_cnt gt n) (b := rt_cnt PL n) q (by omega)
      simp (decide := true) only [BmMa_arrange, BSC, k40, k20, E, EU, EV, EW, CT, ev_o, ev_is, ev_gd, List.length_cons, List.length_nil, Nat.reduceLT, Nat.reduceAdd, Nat.reduceEqDiff, Nat.reduceLeDiff, Int32.reduceLT, Int32.reduceLE, reduceIte, true_and, and_true, true_or, or_true, not_true_eq_false, not_false_eq_true, false_imp_iff, true_imp_iff, implies_true]
      exact fin w1 pr or_ od PL h43 h42 hk hpg hO (full hpg q)
    · have EU := leF (a := rt_cnt gt n) (b := rt_cnt PL n) (by omega) (by omega)
      simp (decide := true) only [BmMa_arrange, BSC, k40, k20, E, EU, EV, EW, CT, ev_o, ev_is, ev_gd, List.length_cons, List.length_nil, Nat.reduceLT, Nat.reduceAdd, Nat.reduceEqDiff, Nat.reduceLeDiff, Int32.reduceLT, Int32.reduceLE, reduceIte, true_and, and_true, true_or, or_true, not_true_eq_false, not_false_eq_true, false_imp_iff, true_imp_iff, implies_true]
      refine ar_in (w := w) (PL0 := PL) (key := key) hA' hkey (fun w2 pr2 or2 od2 PL2 l3 l4 a b c d e f g => ih (rd + 1) w2 pr2 or2 od2 PL2 l3 l4 (by omega) a b c d e f (g.imp (fun z => ?_) id)) (rt_cnt gt n) 0 w1 pr or_ od PL _ (by omega) h43 h42 hk hpr hpg hO (.inr ⟨Nat.le_refl _, fun g _ z => by omega⟩)
      rcases hI with h | h
      · omega
      · have : rt_cnt gt n ≤ rt_cnt PL n := rt_cnt_mono fun u _ hu => h u hu
        omega
set_option maxHeartbeats 8000000 in
theorem ar_clear {w : cx_W} {n : Nat} {gt : Nat → Prop} {pl F : Nat → Nat} {fo oc : Nat} {S tbl cn : Nat → Nat} {gs ch pn tb sr fg gm ct : Nat → Int32} {Q : cx_Q} {dd : Nat} (hA : ArW w n gt pl F fo oc S tbl cn gs ch pn tb sr fg gm ct)
    (hQ : ∀ (w1 : cx_W) (pr : Nat → Int32) (l3 l4 : Option Value), w1 43 = az 48 pr → BR 48 pr (fun _ => False) → (∀ k, ¬ k = 43 → w1 k = w k) → cx_OK none mMa_arrange dd 0 0 Q 25 [some (.ref 40), some (.int (nI 0)), some (.int (nI 0)), l3, l4] [] w1 (87, 0, 0)) :
    ∀ (m i : Nat) (w1 : cx_W) (pr : Nat → Int32) (l2 l3 l4 : Option Value), i + m = 48 → w1 43 = az 48 pr → BR i pr (fun _ => False) → (∀ k, ¬ k = 43 → w1 k = w k) → cx_OK none mMa_arrange dd 0 0 Q 2 [some (.ref 40), some (.int (nI i)), l2, l3, l4] [] w1 (87, 0, 0) := by
  have h40 := hA.2.2.2.2.2.2
  intro m
  induction m with
  | zero =>
    intro i w1 pr l2 l3 l4 hi h43 hB hk
    have e : i = 48 := by omega
    subst e
    have E : ((48 : Int32) ≤ nI 48) = True := eq_true (by decide)
    refine cx_run 100 mMa_arrange_mo ?_
    simp (decide := true) only [BmMa_arrange, E, EV, EW, CT, ev_o, ev_is, ev_gd, List.length_cons, List.length_nil, Nat.reduceLT, Nat.reduceAdd, Nat.reduceEqDiff, Nat.reduceLeDiff, Int32.reduceLT, Int32.reduceLE, reduceIte, true_and, and_true, true_or, or_true, not_true_eq_false, not_false_eq_true, false_imp_iff, true_imp_iff, implies_true]
    exact hQ w1 pr _ _ h43 hB hk
  | succ m ih =>
    intro i w1 pr l2 l3 l4 hi h43 hB hk
    have E : ((48 : Int32) ≤ nI i) = False := (lek (a := i) (c := 48) (x := 48) rfl (by omega) (by decide)).trans (eq_false (by omega))
    have k40 := (hk 40 (by decide)).trans h40
    have v1 : vp_in (nI i) 48 := nI_in (by omega) (by decide)
    refine cx_run 100 mMa_arrange_mo ?_
    simp (decide := true) only [BmMa_arrange, k40, h43, E, v1, nI_clamp (n := i) (by omega), nI_1, EV, EW, CT, ev_o, ev_is, ev_gd, List.length_cons, List.length_nil, Nat.reduceLT, Nat.reduceAdd, Nat.reduceEqDiff, Nat.reduceLeDiff, Int32.reduceLT, Int32.reduceLE, reduceIte, true_and, and_true, true_or, or_true, not_true_eq_false, not_false_eq_true, false_imp_iff, true_imp_iff, implies_true]
    refine ih (i + 1) _ (upd pr i 0) _ _ _ (by omega) (by simp only [cx_up, Nat.reduceEqDiff, reduceIte]) (fun j hj => ⟨fun z => z.elim, fun _ => ?_⟩) (fun k z => by rw [← hk k z]; simp (disch := omega) only [cx_up, if_neg])
    by_cases e : j = i
    · rw [e]; exact pk_us
    · rw [pk_un e]; exact (hB j (by omega)).2 id
theorem cnt_none (n : Nat) : rt_cnt (fun _ => False) n = 0 := by
  induction n with
  | zero => rfl
  | succ n ih => rw [rt_cnt, ih, if_neg id]
set_option maxHeartbeats 8000000 in
theorem c_Ma_arrange {w : cx_W} {n : Nat} {gt : Nat → Prop} {pl F : Nat → Nat} {fo oc : Nat} {S tbl cn key : Nat → Nat} {gs ch pn tb sr fg gm ct pr or_ : Nat → Int32} (hA : ArW w n gt pl F fo oc S tbl cn gs ch pn tb sr fg gm ct) (hkey : ∀ g p, gt g → p < pl g → gt (S (F g + p)) → cn (F g + p) = 0 → key (S (F g + p)) < key g) (h42 : w 42 = ai 48 or_) (h43 : w 43 = az 48 pr) :
    cx_MC mMa_arrange 10 0 0 [.ref 40] w 87 (fun r_ w2 => r_ = none ∧ (∃ pr or_ od, w2 43 = az 48 pr ∧ w2 42 = ai 48 or_ ∧ OrI gt pl F S cn gt or_ od (rt_cnt gt n)) ∧ ∀ k, ¬ k = 42 ∧ ¬ k = 43 → w2 k = w k) := by
  refine cx_met 60 mMa_arrange_ok rfl ?_
  show cx_vc 60 none mMa_arrange 10 0 0 _ _ 0 [some (.ref 40), none, none, none, none] [] w (87, 0, 0)
  simp only [BmMa_arrange, EV, EW, CT, ev_o, ev_is, ev_gd, List.length_cons, List.length_nil, Nat.reduceLT, Nat.reduceAdd, Nat.reduceEqDiff, Nat.reduceLeDiff, Int32.reduceLT, Int32.reduceLE, reduceIte, true_and, and_true, true_or, or_true, not_true_eq_false, not_false_eq_true, false_imp_iff, true_imp_iff, implies_true]
  refine ar_clear (w := w) hA (fun w1 pr1 l3 l4 a b c => ?_) 48 0 w pr _ _ _ (by omega) h43 (fun j h => by omega) (fun _ _ => rfl)
  have := ar_out (w := w) (key := key) hA hkey 48 0 w1 pr1 or_ (fun _ => 0) (fun _ => False) l3 l4 (by omega) a ((c 42 (by decide)).trans h42) (fun k q => c k q.2) b (fun g h => h.elim) ⟨fun k h => by rw [cnt_none] at h; omega, fun g => ⟨fun h => h.elim, fun ⟨k, h, _⟩ => by rw [cnt_none] at h; omega⟩, fun i j h => by rw [cnt_none] at h; omega⟩ (.inl (Nat.zero_le _))
  rw [cnt_none] at this
  exact this
