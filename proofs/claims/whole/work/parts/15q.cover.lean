/-! Both covers choose alike: pure. Own work. -/
theorem lay_lv {kd px py : Nat → Nat} {rt : Nat → Bool} {sw n : Nat} {Lv : Nat → Prop} (hl : ∀ k, k < n → Lv k → (kd k = 2 → px k < n ∧ Lv (px k)) ∧ (kd k = 3 → (px k < n ∧ Lv (px k)) ∧ (py k < n ∧ Lv (py k)))) : ∀ (f d : Nat) (fst : Bool) (stk pins : List Nat) (bit : Nat) {res : List Nat},
    (∀ x, x ∈ stk → x < n ∧ Lv x) → (∀ x, x ∈ pins → x < n ∧ Lv x) → layN kd px py rt sw f d fst stk pins bit = some res → ∀ x, x ∈ res → x < n ∧ Lv x := by
  intro f
  induction f with
  | zero => intro d fst stk pins bit res _ _ h; simp [layN] at h
  | succ f ih =>
    intro d fst stk pins bit res h1 h2 h
    by_cases d0 : d = 0
    · have e : layN kd px py rt sw (f + 1) d fst stk pins bit = some pins := by cases stk <;> simp only [lay_n, lay_s, if_pos d0]
      rw [e] at h
      injection h with h
      subst h
      exact h2
    · match stk, h1, h with
      | [], _, h => rw [lay_n, if_neg d0] at h; exact absurd h (by simp)
      | m :: s, h1, h =>
        have hm := h1 m (List.mem_cons_self ..)
        have hs : ∀ x, x ∈ s → x < n ∧ Lv x := fun x hx => h1 x (List.mem_cons_of_mem _ hx)
        have hp := hl m hm.1 hm.2
        rw [lay_s, if_neg d0] at h
        by_cases a : d % 4 = 1
        · rw [if_pos a] at h
          exact ih _ _ _ _ _ hs (fun x hx => by
            rcases List.mem_cons.mp hx with e | e
            · rw [e]; exact hm
            · exact h2 x e) h
        · rw [if_neg a] at h
          by_cases b : d % 4 = 0 ∨ ¬ kd m = d % 4 ∨ (fst = false ∧ rt m = true)
          · rw [if_pos b] at h; exact absurd h (by simp)
          · rw [if_neg b] at h
            have b0 : ¬ d % 4 = 0 := fun q => b (.inl q)
            have b1 : kd m = d % 4 := Classical.byContradiction fun q => b (.inr (.inl q))
            by_cases c : d % 4 = 2
            · rw [if_pos c] at h
              exact ih _ _ _ _ _ (fun x hx => by
                rcases List.mem_cons.mp hx with e | e
                · rw [e]; exact hp.1 (by omega)
                · exact hs x e) h2 h
            · rw [if_neg c] at h
              have ⟨q1, q2⟩ := hp.2 (by omega)
              exact ih _ _ _ _ _ (fun x hx => by
                split at hx
                · rcases List.mem_cons.mp hx with e | e
                  · rw [e]; exact q2
                  · rcases List.mem_cons.mp e with e | e
                    · rw [e]; exact q1
                    · exact hs x e
                · rcases List.mem_cons.mp hx with e | e
                  · rw [e]; exact q1
                  · rcases List.mem_cons.mp e with e | e
                    · rw [e]; exact q2
                    · exact hs x e) h2 h
/-- how many pins come out -/
theorem lay_len {kd px py : Nat → Nat} {rt : Nat → Bool} {sw : Nat} : ∀ (f d : Nat) (fst : Bool) (stk pins : List Nat) (bit : Nat) {res : List Nat}, layN kd px py rt sw f d fst stk pins bit = some res → res.length = pins.length + cdr 1 f d := by
  intro f
  induction f with
  | zero => intro d fst stk pins bit res h; simp [layN] at h
  | succ f ih =>
    intro d fst stk pins bit res h
    by_cases d0 : d = 0
    · have e : layN kd px py rt sw (f + 1) d fst stk pins bit = some pins := by cases stk <;> simp only [lay_n, lay_s, if_pos d0]
      rw [e] at h
      injection h with h
      subst h
      rw [cdr, if_pos d0]; rfl
    · rw [cdr, if_neg d0]
      match stk, h with
      | [], h => rw [lay_n, if_neg d0] at h; exact absurd h (by simp)
      | m :: s, h =>
        rw [lay_s, if_neg d0] at h
        by_cases a : d % 4 = 1
        · rw [if_pos a] at h
          rw [if_pos a, ih _ _ _ _ _ h, List.length_cons]; omega
        · rw [if_neg a] at h
          rw [if_neg a]
          by_cases b : d % 4 = 0 ∨ ¬ kd m = d % 4 ∨ (fst = false ∧ rt m = true)
          · rw [if_pos b] at h; exact absurd h (by simp)
          · rw [if_neg b] at h
            by_cases c : d % 4 = 2
            · rw [if_pos c] at h; rw [ih _ _ _ _ _ h]; omega
            · rw [if_neg c] at h; rw [ih _ _ _ _ _ h]; omega
def layC (kd px py : Nat → Nat) (rt : Nat → Bool) (p : Nat → Nat) (n c sw : Nat) : Option (List Nat) := layN kd px py rt sw 8 (p c) true [n] [] (nandsP (p c))
def valC (kd : Nat → Nat) (rt : Nat → Bool) (ar : Nat → Nat) (cost : Nat → Nat) (c : Nat) (pins : List Nat) : Nat := ar c + sumL (pc kd rt cost) pins
def bestC (kd px py : Nat → Nat) (rt : Nat → Bool) (p ar : Nat → Nat) (cells : Nat) (cost : Nat → Nat) (B n : Nat) : ChS := chC (layC kd px py rt p n) (valC kd rt ar cost) (fun c => 2 ^ nandsP (p c)) cells (B, none)
theorem lay_inv {kd px py : Nat → Nat} {rt : Nat → Bool} {p : Nat → Nat} {n c : Nat} (h : p c = 6) (hk : kd n = 2) : layC kd px py rt p n c 0 = some [px n] := by
  unfold layC
  rw [h, lay_s, if_neg (by decide), if_neg (by decide), if_neg (by simp [hk]), if_pos (by decide), lay_s, if_neg (by decide), if_pos (by decide), lay_n, if_pos (by decide)]
theorem lay_nand {kd px py : Nat → Nat} {rt : Nat → Bool} {p : Nat → Nat} {n c : Nat} (h : p c = 23) (hk : kd n = 3) : layC kd px py rt p n c 0 = some [py n, px n] := by
  unfold layC
  rw [h, lay_s, if_neg (by decide), if_neg (by decide), if_neg (by simp [hk]), if_neg (by decide), if_neg (by simp), lay_s, if_neg (by decide), if_pos (by decide), lay_s, if_neg (by decide), if_pos (by decide), lay_n, if_pos (by decide)]
/-- at a live logic node: the same choice from both bounds, no dearer than its tree -/
theorem cover_same {kd px py : Nat → Nat} {rt : Nat → Bool} {p ar : Nat → Nat} {cells N n : Nat} {Lv : Nat → Prop} {csC csM : Nat → Nat} (hw : wf kd px py N) (hn : n < N)
    (hl : ∀ k, k < N → Lv k → (kd k = 2 → px k < N ∧ Lv (px k)) ∧ (kd k = 3 → (px k < N ∧ Lv (px k)) ∧ (py k < N ∧ Lv (py k)))) (hln : Lv n) (hk : kd n = 2 ∨ kd n = 3) (hp : ∀ c, c < cells → p c ∈ pats) (har : ∀ c, c < cells → ar c ≤ 1000)
    (h6 : ∃ c, c < cells ∧ p c = 6) (h23 : ∃ c, c < cells ∧ p c = 23) (hcs : ∀ m, m < n → Lv m → nr kd rt m → csC m = csM m ∧ csM m ≤ 1000 * sz kd px py rt m) (hsz : sz kd px py rt n ≤ 48) :
    bestC kd px py rt p ar cells csC 48001 n = bestC kd px py rt p ar cells csM 1000000 n ∧ (bestC kd px py rt p ar cells csM 1000000 n).1 ≤ 1000 * sz kd px py rt n ∧
    ∃ c sw pins, bestC kd px py rt p ar cells csM 1000000 n = (valC kd rt ar csM c pins, some (c, sw, pins)) ∧ layC kd px py rt p n c sw = some pins ∧ c < cells ∧ sw < 2 ^ nandsP (p c) ∧ (∀ x, x ∈ pins → x < n ∧ Lv x) ∧ pins.length = pinsP (p c) := by
  have pin : ∀ c sw pins, c < cells → layC kd px py rt p n c sw = some pins → (∀ x, x ∈ pins → x < n ∧ Lv x) ∧ pins.length = pinsP (p c) ∧ sumL (pc kd rt csM) pins + 1000 ≤ 1000 * sz kd px py rt n := by
    intro c sw pins hc h
    have hpc := hp c hc
    have hd : ¬ p c = 0 ∧ ¬ p c % 4 = 1 := by
      have : pats.all (fun q => decide (¬ q = 0 ∧ ¬ q % 4 = 1)) = true := by decide +kernel
      exact of_decide_eq_true (List.all_eq_true.mp this _ hpc)
    have ⟨t1, t2⟩ := lay_top hw hn hd.1 hd.2 h
    have t3 := lay_lv hl _ _ _ _ _ _ (fun x hx => by
      rcases List.mem_cons.mp hx with e | e
      · rw [e]; exact ⟨hn, hln⟩
      · exact absurd e (by simp)) (fun x hx => absurd hx (by simp)) h
    have t4 := lay_len _ _ _ _ _ _ h
    have e8 : cdr 1 8 (p c) = pinsP (p c) := by
      have : pats.all (fun q => decide (cdr 1 8 q = pinsP q)) = true := by decide +kernel
      exact of_decide_eq_true (List.all_eq_true.mp this _ hpc)
    have t5 := pc_le (kd := kd) (px := px) (py := py) (rt := rt) (cost := csM) (l := pins) fun x hx hr => (hcs x (t1 x hx) (t3 x hx).2 hr).2
    refine ⟨fun x hx => ⟨t1 x hx, (t3 x hx).2⟩, by rw [t4, e8]; simp, by omega⟩
  have hsum : ∀ (pins : List Nat), (∀ x, x ∈ pins → x < n ∧ Lv x) → sumL (pc kd rt csC) pins = sumL (pc kd rt csM) pins := by
    intro pins
    induction pins with
    | nil => intro _; rfl
    | cons x l ih =>
      intro h
      simp only [sumL]
      rw [ih fun y hy => h y (List.mem_cons_of_mem _ hy)]
      congr 1
      unfold pc
      by_cases e : nr kd rt x
      · rw [if_pos e, if_pos e]; exact (hcs x (h x (List.mem_cons_self ..)).1 (h x (List.mem_cons_self ..)).2 e).1
      · rw [if_neg e, if_neg e]
  have cong : bestC kd px py rt p ar cells csC 48001 n = bestC kd px py rt p ar cells csM 48001 n :=
    chC_congr _ fun c sw hc _ => ⟨rfl, fun pins h => by unfold valC; rw [hsum pins (pin c sw pins hc h).1]⟩
  have ⟨c0, pins0, hc0, hl0⟩ : ∃ c pins, c < cells ∧ layC kd px py rt p n c 0 = some pins := by
    rcases hk with e | e
    · have ⟨c, h1, h2⟩ := h6; exact ⟨c, _, h1, lay_inv h2 e⟩
    · have ⟨c, h1, h2⟩ := h23; exact ⟨c, _, h1, lay_nand h2 e⟩
  have hv0 : valC kd rt ar csM c0 pins0 ≤ 1000 * sz kd px py rt n := by
    have := (pin c0 0 pins0 hc0 hl0).2.2; have := har c0 hc0; unfold valC; omega
  have ⟨r1, r2, c, sw, pins, r3, r4, r5, r6⟩ := chC_same (val := valC kd rt ar csM) (ways := fun c => 2 ^ nandsP (p c)) (B := 48001) (C := 1000000) (by decide) hl0 (Nat.two_pow_pos _) hc0 (by omega)
  have ⟨s1, s2, s3⟩ := pin c sw pins r5 r4
  refine ⟨cong.trans r1, Nat.le_trans r2 hv0, c, sw, pins, r3, r4, r5, r6, s1, s2⟩
