/-! Laying a pattern on a node, and what it costs: pure. Own work. -/
/-- kd: 2 INV, 3 NAND (as the digits); d the digits still to come, the lowest first; stk the open nodes, the next first; pins the pins' nodes, the last first -/
def layN (kd px py : Nat → Nat) (rt : Nat → Bool) (sw : Nat) : Nat → Nat → Bool → List Nat → List Nat → Nat → Option (List Nat)
  | 0, _, _, _, _, _ => none
  | f + 1, d, fst, stk, pins, bit =>
    if d = 0 then some pins else
    match stk with
    | [] => none
    | n :: s =>
      if d % 4 = 1 then layN kd px py rt sw f (d / 4) false s (n :: pins) bit
      else if d % 4 = 0 ∨ ¬ kd n = d % 4 ∨ (fst = false ∧ rt n = true) then none
      else if d % 4 = 2 then layN kd px py rt sw f (d / 4) false (px n :: s) pins bit
      else layN kd px py rt sw f (d / 4) false (if sw.testBit (bit - 1) = true then py n :: px n :: s else px n :: py n :: s) pins (bit - 1)
theorem lay_n {kd px py : Nat → Nat} {rt : Nat → Bool} {sw f d : Nat} {fst : Bool} {pins : List Nat} {bit : Nat} : layN kd px py rt sw (f + 1) d fst [] pins bit = if d = 0 then some pins else none := rfl
theorem lay_s {kd px py : Nat → Nat} {rt : Nat → Bool} {sw f d n : Nat} {fst : Bool} {s pins : List Nat} {bit : Nat} : layN kd px py rt sw (f + 1) d fst (n :: s) pins bit =
    if d = 0 then some pins else
      if d % 4 = 1 then layN kd px py rt sw f (d / 4) false s (n :: pins) bit
      else if d % 4 = 0 ∨ ¬ kd n = d % 4 ∨ (fst = false ∧ rt n = true) then none
      else if d % 4 = 2 then layN kd px py rt sw f (d / 4) false (px n :: s) pins bit
      else layN kd px py rt sw f (d / 4) false (if sw.testBit (bit - 1) = true then py n :: px n :: s else px n :: py n :: s) pins (bit - 1) := rfl
def lg (kd : Nat → Nat) (n : Nat) : Prop := kd n = 2 ∨ kd n = 3
/-- inside a tree: logic and no root -/
abbrev nr (kd : Nat → Nat) (rt : Nat → Bool) (n : Nat) : Prop := (kd n = 2 ∨ kd n = 3) ∧ rt n = false
def sumL (f : Nat → Nat) : List Nat → Nat
  | [] => 0
  | n :: l => f n + sumL f l
/-- what the pins cost -/
def pc (kd : Nat → Nat) (rt : Nat → Bool) (cost : Nat → Nat) (n : Nat) : Nat := if nr kd rt n then cost n else 0
/-- how many nodes the tree of a node has -/
def sz (kd px py : Nat → Nat) (rt : Nat → Bool) (n : Nat) : Nat :=
  if kd n = 2 then 1 + (if _h : px n < n ∧ nr kd rt (px n) then sz kd px py rt (px n) else 0)
  else if kd n = 3 then 1 + (if _h : px n < n ∧ nr kd rt (px n) then sz kd px py rt (px n) else 0) + (if _h : py n < n ∧ nr kd rt (py n) then sz kd px py rt (py n) else 0)
  else 0
termination_by n
def bd (kd px py : Nat → Nat) (rt : Nat → Bool) (n : Nat) : Nat := if nr kd rt n then sz kd px py rt n else 0
/-- parts stand before their wholes -/
def wf (kd px py : Nat → Nat) (n : Nat) : Prop := ∀ j, j < n → (kd j = 2 → px j < j) ∧ (kd j = 3 → px j < j ∧ py j < j ∧ ¬ px j = py j)
theorem sz2 {kd px py : Nat → Nat} {rt : Nat → Bool} {n j : Nat} (hw : wf kd px py n) (hj : j < n) (hk : kd j = 2) : sz kd px py rt j = 1 + bd kd px py rt (px j) := by
  have := (hw j hj).1 hk
  rw [sz, if_pos hk]
  unfold bd
  by_cases h : nr kd rt (px j)
  · rw [dif_pos ⟨this, h⟩, if_pos h]
  · rw [dif_neg (fun q => h q.2), if_neg h]
theorem sz3 {kd px py : Nat → Nat} {rt : Nat → Bool} {n j : Nat} (hw : wf kd px py n) (hj : j < n) (hk : kd j = 3) : sz kd px py rt j = 1 + bd kd px py rt (px j) + bd kd px py rt (py j) := by
  have ⟨h1, h2, _⟩ := (hw j hj).2 hk
  rw [sz, if_neg (by omega), if_pos hk]
  unfold bd
  congr 1
  · congr 1
    by_cases h : nr kd rt (px j)
    · rw [dif_pos ⟨h1, h⟩, if_pos h]
    · rw [dif_neg (fun q => h q.2), if_neg h]
  · by_cases h : nr kd rt (py j)
    · rw [dif_pos ⟨h2, h⟩, if_pos h]
    · rw [dif_neg (fun q => h q.2), if_neg h]
/-- what a laid pattern opens: nodes below the top, and no more than the tree has -/
theorem lay_in {kd px py : Nat → Nat} {rt : Nat → Bool} {sw n top : Nat} (hw : wf kd px py n) (ht : top < n) : ∀ (f d : Nat) (stk pins : List Nat) (bit : Nat) {res : List Nat},
    (∀ x, x ∈ stk → x < top) → (∀ x, x ∈ pins → x < top) → layN kd px py rt sw f d false stk pins bit = some res →
    (∀ x, x ∈ res → x < top) ∧ sumL (bd kd px py rt) res ≤ sumL (bd kd px py rt) stk + sumL (bd kd px py rt) pins := by
  intro f
  induction f with
  | zero => intro d stk pins bit res _ _ h; simp [layN] at h
  | succ f ih =>
    intro d stk pins bit res h1 h2 h
    by_cases d0 : d = 0
    · have e : layN kd px py rt sw (f + 1) d false stk pins bit = some pins := by cases stk <;> simp only [lay_n, lay_s, if_pos d0]
      rw [e] at h
      injection h with h
      subst h
      exact ⟨h2, by omega⟩
    · match stk, h1, h with
      | [], _, h => rw [lay_n, if_neg d0] at h; exact absurd h (by simp)
      | m :: s, h1, h =>
        have hm := h1 m (List.mem_cons_self ..)
        have hs : ∀ x, x ∈ s → x < top := fun x hx => h1 x (List.mem_cons_of_mem _ hx)
        rw [lay_s, if_neg d0] at h
        by_cases a : d % 4 = 1
        · rw [if_pos a] at h
          have ⟨r1, r2⟩ := ih _ _ _ _ hs (fun x hx => by
            rcases List.mem_cons.mp hx with e | e
            · rw [e]; exact hm
            · exact h2 x e) h
          refine ⟨r1, ?_⟩
          simp only [sumL] at r2 ⊢
          omega
        · rw [if_neg a] at h
          by_cases b : d % 4 = 0 ∨ ¬ kd m = d % 4 ∨ (false = false ∧ rt m = true)
          · rw [if_pos b] at h; exact absurd h (by simp)
          · rw [if_neg b] at h
            have b1 : kd m = d % 4 := Classical.byContradiction fun q => b (.inr (.inl q))
            have b2 : rt m = false := by
              cases e : rt m
              · rfl
              · exact absurd (.inr (.inr ⟨rfl, e⟩)) b
            by_cases c : d % 4 = 2
            · rw [if_pos c] at h
              have hk : kd m = 2 := by omega
              have := (hw m (by omega)).1 hk
              have ⟨r1, r2⟩ := ih _ _ _ _ (fun x hx => by
                rcases List.mem_cons.mp hx with e | e
                · omega
                · exact hs x e) h2 h
              refine ⟨r1, ?_⟩
              simp only [sumL] at r2 ⊢
              have e1 : bd kd px py rt m = sz kd px py rt m := if_pos ⟨.inl hk, b2⟩
              rw [e1, sz2 hw (by omega) hk]
              omega
            · rw [if_neg c] at h
              have hk : kd m = 3 := by
                have : ¬ d % 4 = 0 := fun q => b (.inl q)
                omega
              have ⟨w1, w2, _⟩ := (hw m (by omega)).2 hk
              have e1 : bd kd px py rt m = sz kd px py rt m := if_pos ⟨.inr hk, b2⟩
              have e2 := sz3 (rt := rt) hw (by omega) hk
              have ⟨r1, r2⟩ := ih _ _ _ _ (fun x hx => by
                split at hx
                · rcases List.mem_cons.mp hx with e | e
                  · omega
                  · rcases List.mem_cons.mp e with e | e
                    · omega
                    · exact hs x e
                · rcases List.mem_cons.mp hx with e | e
                  · omega
                  · rcases List.mem_cons.mp e with e | e
                    · omega
                    · exact hs x e) h2 h
              refine ⟨r1, ?_⟩
              have e3 : sumL (bd kd px py rt) (if sw.testBit (bit - 1) = true then py m :: px m :: s else px m :: py m :: s) = bd kd px py rt (px m) + bd kd px py rt (py m) + sumL (bd kd px py rt) s := by
                split <;> simp only [sumL] <;> omega
              rw [e3] at r2
              simp only [sumL]
              omega

/-- the whole laying, from the top -/
theorem lay_top {kd px py : Nat → Nat} {rt : Nat → Bool} {sw n top f d bit : Nat} {res : List Nat} (hw : wf kd px py n) (ht : top < n) (hd0 : ¬ d = 0) (hd : ¬ d % 4 = 1)
    (h : layN kd px py rt sw (f + 1) d true [top] [] bit = some res) : (∀ x, x ∈ res → x < top) ∧ sumL (bd kd px py rt) res + 1 ≤ sz kd px py rt top := by
  rw [lay_s, if_neg hd0, if_neg hd] at h
  by_cases b : d % 4 = 0 ∨ ¬ kd top = d % 4 ∨ (true = false ∧ rt top = true)
  · rw [if_pos b] at h; exact absurd h (by simp)
  · rw [if_neg b] at h
    have b0 : ¬ d % 4 = 0 := fun q => b (.inl q)
    have b1 : kd top = d % 4 := Classical.byContradiction fun q => b (.inr (.inl q))
    by_cases c : d % 4 = 2
    · rw [if_pos c] at h
      have hk : kd top = 2 := by omega
      have := (hw top ht).1 hk
      have ⟨r1, r2⟩ := lay_in hw ht _ _ _ _ _ (fun x hx => by
        rcases List.mem_cons.mp hx with e | e
        · omega
        · exact absurd e (by simp)) (fun x hx => absurd hx (by simp)) h
      refine ⟨r1, ?_⟩
      rw [sz2 hw ht hk]
      simp only [sumL] at r2
      omega
    · rw [if_neg c] at h
      have hk : kd top = 3 := by omega
      have ⟨w1, w2, _⟩ := (hw top ht).2 hk
      have ⟨r1, r2⟩ := lay_in hw ht _ _ _ _ _ (fun x hx => by
        have hx : x = px top ∨ x = py top := by
          split at hx <;> simp at hx <;> omega
        omega) (fun x hx => absurd hx (by simp)) h
      refine ⟨r1, ?_⟩
      rw [sz3 hw ht hk]
      have e3 : sumL (bd kd px py rt) (if sw.testBit (bit - 1) = true then [py top, px top] else [px top, py top]) = bd kd px py rt (px top) + bd kd px py rt (py top) := by
        split <;> simp only [sumL] <;> omega
      rw [e3] at r2
      simp only [sumL] at r2
      omega
theorem pc_le {kd px py : Nat → Nat} {rt : Nat → Bool} {cost : Nat → Nat} {l : List Nat} (h : ∀ x, x ∈ l → nr kd rt x → cost x ≤ 1000 * sz kd px py rt x) :
    sumL (pc kd rt cost) l ≤ 1000 * sumL (bd kd px py rt) l := by
  induction l with
  | nil => simp [sumL]
  | cons x l ih =>
    have h1 := ih fun y hy => h y (List.mem_cons_of_mem _ hy)
    have h2 := h x (List.mem_cons_self ..)
    simp only [sumL]
    have : pc kd rt cost x ≤ 1000 * bd kd px py rt x := by
      unfold pc bd
      by_cases e : nr kd rt x
      · rw [if_pos e, if_pos e]; exact h2 e
      · rw [if_neg e, if_neg e]; omega
    omega

/-! ## trees have no more nodes than there are -/
def sumN (f : Nat → Nat) : Nat → Nat
  | 0 => 0
  | n + 1 => sumN f n + f n
theorem sumN_le {f g : Nat → Nat} {n : Nat} (h : ∀ m, m < n → f m ≤ g m) : sumN f n ≤ sumN g n := by
  induction n with
  | zero => simp [sumN]
  | succ n ih => have := ih fun m hm => h m (by omega); have := h n (by omega); simp only [sumN]; omega
theorem sumN_ind {x a : Nat} : ∀ {n : Nat}, x < n → sumN (fun m => if m = x then a else 0) n = a := by
  have z : ∀ n, n ≤ x → sumN (fun m => if m = x then a else 0) n = 0 := by
    intro n
    induction n with
    | zero => intro _; rfl
    | succ n ih => intro h; rw [sumN, ih (by omega), if_neg (by omega)]
  intro n
  induction n with
  | zero => intro h; omega
  | succ n ih =>
    intro h
    rw [sumN]
    by_cases e : n = x
    · rw [if_pos e, z n (by omega), Nat.zero_add]
    · rw [if_neg e, ih (by omega)]; rfl
theorem sumN_add {f g : Nat → Nat} {n : Nat} : sumN (fun m => f m + g m) n = sumN f n + sumN g n := by
  induction n with
  | zero => rfl
  | succ n ih => simp only [sumN, ih]; omega
/-- how many of the live nodes below k read m -/
def rdr (kd px py : Nat → Nat) (lv : Nat → Bool) : Nat → Nat → Nat
  | 0, _ => 0
  | k + 1, m => rdr kd px py lv k m + (if lv k = true ∧ kd k = 2 ∧ px k = m then 1 else 0) + (if lv k = true ∧ kd k = 3 ∧ px k = m then 1 else 0) + (if lv k = true ∧ kd k = 3 ∧ py k = m then 1 else 0)
theorem rdr_mono (kd px py : Nat → Nat) (lv : Nat → Bool) {m : Nat} : ∀ {k k' : Nat}, k ≤ k' → rdr kd px py lv k m ≤ rdr kd px py lv k' m := by
  intro k k' h
  induction k' with
  | zero => rw [show k = 0 by omega]; exact Nat.le_refl _
  | succ k' ih =>
    by_cases e : k = k' + 1
    · rw [e]; exact Nat.le_refl _
    · have := ih (by omega); rw [rdr]; omega
def unr (kd px py : Nat → Nat) (rt lv : Nat → Bool) (k m : Nat) : Nat := if lv m = true ∧ rdr kd px py lv k m = 0 then bd kd px py rt m else 0
theorem unr_mono {kd px py : Nat → Nat} {rt lv : Nat → Bool} {k m : Nat} : unr kd px py rt lv (k + 1) m ≤ unr kd px py rt lv k m := by
  unfold unr
  have := rdr_mono kd px py lv (m := m) (show k ≤ k + 1 by omega)
  by_cases e : lv m = true ∧ rdr kd px py lv (k + 1) m = 0
  · rw [if_pos e, if_pos ⟨e.1, by omega⟩]; exact Nat.le_refl _
  · rw [if_neg e]; omega
/-- hr: inside trees each node has one live reader at most; hl: parts of live nodes are live -/
theorem sz_le {kd px py : Nat → Nat} {rt lv : Nat → Bool} {n : Nat} (hw : wf kd px py n) (hr : ∀ m, m < n → nr kd rt m → rdr kd px py lv n m ≤ 1)
    (hl : ∀ k, k < n → lv k = true → (kd k = 2 → lv (px k) = true) ∧ (kd k = 3 → lv (px k) = true ∧ lv (py k) = true)) :
    ∀ k, k ≤ n → sumN (unr kd px py rt lv k) k ≤ k ∧ (k < n → lv k = true → sz kd px py rt k ≤ k + 1) := by
  -- a part that is read at k has not been read before
  have part : ∀ k m, k < n → lv k = true → m < k → lv m = true → ((kd k = 2 ∧ px k = m) ∨ (kd k = 3 ∧ px k = m) ∨ (kd k = 3 ∧ py k = m)) → unr kd px py rt lv k m = bd kd px py rt m ∧ unr kd px py rt lv (k + 1) m = 0 := by
    intro k m hk lk hm lm hread
    have h1 : rdr kd px py lv k m + 1 ≤ rdr kd px py lv (k + 1) m := by
      rw [rdr]
      rcases hread with h | h | h
      · rw [if_pos (show lv k = true ∧ kd k = 2 ∧ px k = m from ⟨lk, h⟩)]; omega
      · rw [if_pos (show lv k = true ∧ kd k = 3 ∧ px k = m from ⟨lk, h⟩)]; omega
      · rw [if_pos (show lv k = true ∧ kd k = 3 ∧ py k = m from ⟨lk, h⟩)]; omega
    have h2 := rdr_mono kd px py lv (m := m) (show k + 1 ≤ n by omega)
    refine ⟨?_, ?_⟩
    · unfold unr
      by_cases e : nr kd rt m
      · have := hr m (by omega) e
        rw [if_pos ⟨lm, by omega⟩]
      · have : bd kd px py rt m = 0 := if_neg e
        rw [this, ite_self]
    · unfold unr
      rw [if_neg (fun q => by omega)]
  -- one step
  have step : ∀ k, k < n → sumN (unr kd px py rt lv (k + 1)) (k + 1) ≤ sumN (unr kd px py rt lv k) k + 1 ∧ (lv k = true → sz kd px py rt k ≤ sumN (unr kd px py rt lv k) k + 1) := by
    intro k hk
    have mono : sumN (unr kd px py rt lv (k + 1)) k ≤ sumN (unr kd px py rt lv k) k := sumN_le fun m _ => unr_mono
    have last : unr kd px py rt lv (k + 1) k ≤ bd kd px py rt k := by unfold unr; split <;> omega
    have last0 : ¬ lv k = true → unr kd px py rt lv (k + 1) k = 0 := fun q => if_neg (fun h => q h.1)
    rw [sumN]
    by_cases lk : lv k = true
    · by_cases k2 : kd k = 2
      · have hx := (hw k hk).1 k2
        have ⟨p1, p2⟩ := part k (px k) hk lk hx ((hl k hk lk).1 k2) (.inl ⟨k2, rfl⟩)
        have s1 : sumN (fun m => unr kd px py rt lv (k + 1) m + (if m = px k then bd kd px py rt (px k) else 0)) k ≤ sumN (unr kd px py rt lv k) k := sumN_le fun m _ => by
          by_cases e : m = px k
          · subst e; rw [if_pos rfl, p1, p2]; omega
          · rw [if_neg e]; exact unr_mono
        rw [sumN_add, sumN_ind hx] at s1
        have e := sz2 (rt := rt) hw hk k2
        have : bd kd px py rt k ≤ sz kd px py rt k := by unfold bd; split <;> omega
        exact ⟨by omega, fun _ => by omega⟩
      · by_cases k3 : kd k = 3
        · have ⟨hx, hy, hne⟩ := (hw k hk).2 k3
          have hll := (hl k hk lk).2 k3
          have ⟨p1, p2⟩ := part k (px k) hk lk hx hll.1 (.inr (.inl ⟨k3, rfl⟩))
          have ⟨q1, q2⟩ := part k (py k) hk lk hy hll.2 (.inr (.inr ⟨k3, rfl⟩))
          have s1 : sumN (fun m => (unr kd px py rt lv (k + 1) m + (if m = px k then bd kd px py rt (px k) else 0)) + (if m = py k then bd kd px py rt (py k) else 0)) k ≤ sumN (unr kd px py rt lv k) k := sumN_le fun m _ => by
            by_cases e : m = px k
            · subst e; rw [if_pos rfl, if_neg hne, p1, p2]; omega
            · rw [if_neg e]
              by_cases e2 : m = py k
              · subst e2; rw [if_pos rfl, q1, q2]; omega
              · rw [if_neg e2]; exact unr_mono
          rw [sumN_add, sumN_add, sumN_ind hx, sumN_ind hy] at s1
          have e := sz3 (rt := rt) hw hk k3
          have : bd kd px py rt k ≤ sz kd px py rt k := by unfold bd; split <;> omega
          exact ⟨by omega, fun _ => by omega⟩
        · have e : sz kd px py rt k = 0 := by rw [sz, if_neg k2, if_neg k3]
          have : bd kd px py rt k ≤ sz kd px py rt k := by unfold bd; split <;> omega
          exact ⟨by omega, fun _ => by omega⟩
    · have := last0 lk
      exact ⟨by omega, fun h => absurd h lk⟩
  intro k
  induction k with
  | zero =>
    intro _
    refine ⟨by simp [sumN], fun hk l0 => ?_⟩
    have := (step 0 hk).2 l0
    simpa [sumN] using this
  | succ k ih =>
    intro hk
    have h1 := (ih (by omega)).1
    have h2 := (step k (by omega)).1
    refine ⟨by omega, fun hk2 l => ?_⟩
    have := (step (k + 1) hk2).2 l
    omega
