/-! The reading of bytecode as conditions: a world of numbered cells, a step of each instruction as a condition, and why a condition that holds is a walk of the machine. Own work. -/
abbrev cx_E : Type := (Nat × Nat × ((Nat → Int32) ⊕ (Nat → Int64))) ⊕ (Nat × List Value)
abbrev cx_W : Type := Nat → cx_E
abbrev cx_U : Type := Nat × Nat × Nat
abbrev cx_L : Type := List (Option Value)
abbrev cx_Q : Type := Option Value → cx_W → cx_U → Prop
abbrev cx_K : Type := Nat → cx_L → List Value → cx_W → cx_U → Prop
abbrev cx_X : Type := Option (Nat × (Nat → Int32))
-- the cell k lies at g.1 + k; the number 1000000 is the script's
def cx_ad (g : Nat × Nat) (k : Nat) : Nat := if k = 1000000 then g.2 else g.1 + k
def cx_v (g : Nat × Nat) : Value → Value
  | .int x => .int x
  | .long x => .long x
  | .float x => .float x
  | .double x => .double x
  | .null => .null
  | .ref k => .ref (cx_ad g k)
  | .retAddr x => .retAddr x
def cx_e (g : Nat × Nat) (cA : Nat → ClassId) : cx_E → va_E
  | .inl (t, n, .inl f) => .inl (cA t, n, .inl f)
  | .inl (t, n, .inr f) => .inl (cA t, n, .inr (.inl f))
  | .inr (ci, fs) => .inr (ci, fs.map (cx_v g))
def cx_w (g : Nat × Nat) (cA : Nat → ClassId) (n : Nat) (w : cx_W) : va_W := (List.range n).map (fun k => (cx_ad g k, cx_e g cA (w k)))
def cx_up (w : cx_W) (k : Nat) (e : cx_E) : cx_W := fun j => if j = k then e else w j
theorem cx_cat (g : Nat × Nat) (v : Value) : (cx_v g v).category = v.category := by cases v <;> rfl
theorem cx_w_at {g : Nat × Nat} {cA : Nat → ClassId} {n k : Nat} {w : cx_W} (h : k < n) : (cx_w g cA n w)[k]? = some (cx_ad g k, cx_e g cA (w k)) := by
  unfold cx_w
  rw [List.getElem?_map, List.getElem?_range h]
  rfl
theorem cx_w_len {g : Nat × Nat} {cA : Nat → ClassId} {n : Nat} {w : cx_W} : (cx_w g cA n w).length = n := by simp [cx_w]
theorem cx_w_set {g : Nat × Nat} {cA : Nat → ClassId} {n k : Nat} {w : cx_W} {e : cx_E} : (cx_w g cA n w).set k (cx_ad g k, cx_e g cA e) = cx_w g cA n (cx_up w k e) := by
  apply List.ext_getElem?
  intro j
  by_cases hj : j < n
  · rw [cx_w_at hj, List.getElem?_set, cx_w_len]
    by_cases hk : k = j
    · subst hk
      rw [if_pos rfl, if_pos hj]
      simp [cx_up]
    · rw [if_neg hk, cx_w_at hj]
      have hk2 : ¬ j = k := fun q => hk q.symm
      simp [cx_up, hk2]
  · rw [List.getElem?_eq_none (by rw [List.length_set, cx_w_len]; omega), List.getElem?_eq_none (by rw [cx_w_len]; omega)]
theorem cx_w_inv {g : Nat × Nat} {cA : Nat → ClassId} {n : Nat} {w : cx_W} (hn : n ≤ 1000000) {i : Nat} {p : Nat × va_E} (h : (cx_w g cA n w)[i]? = some p) : i < n ∧ p = (g.1 + i, cx_e g cA (w i)) := by
  have hi : i < n := by
    have h1 := (List.getElem?_eq_some_iff.mp h).1
    rw [cx_w_len] at h1
    exact h1
  rw [cx_w_at hi] at h
  refine ⟨hi, ?_⟩
  rw [← Option.some.inj h]
  unfold cx_ad
  rw [if_neg (by omega)]
theorem cx_w_D {g : Nat × Nat} {cA : Nat → ClassId} {n : Nat} {w : cx_W} (hn : n ≤ 1000000) : va_D (fun q => g.1 ≤ q) (cx_w g cA n w) := by
  refine ⟨fun i j p q hp hq e => ?_, fun k q h => ?_⟩
  · rw [(cx_w_inv hn hp).2, (cx_w_inv hn hq).2] at e
    have e2 : g.1 + i = g.1 + j := e
    omega
  · rw [(cx_w_inv hn h).2]
    exact Nat.le_add_right _ _
theorem cx_w_push {g : Nat × Nat} {cA : Nat → ClassId} {n : Nat} {w : cx_W} {e : cx_E} (hn : n < 1000000) : cx_w g cA n w ++ [(g.1 + n, cx_e g cA e)] = cx_w g cA (n + 1) (cx_up w n e) := by
  unfold cx_w
  rw [List.range_succ, List.map_append]
  congr 1
  · apply List.map_congr_left
    intro k hk
    have h1 : ¬ k = n := by have := List.mem_range.mp hk; omega
    simp [cx_up, h1]
  · have h1 : ¬ n = 1000000 := by omega
    simp [cx_up, cx_ad, h1]
-- the variables of a frame
def cx_al (g : Nat × Nat) (L : cx_L) : List (Nat × Value) := (List.range L.length).filterMap (fun i => match L[i]? with
  | some (some v) => some (i, cx_v g v)
  | _ => none)
theorem cx_al_mem {g : Nat × Nat} {L : cx_L} {q : Nat × Value} : q ∈ cx_al g L ↔ ∃ v, L[q.1]? = some (some v) ∧ q.2 = cx_v g v := by
  unfold cx_al
  rw [List.mem_filterMap]
  constructor
  · rintro ⟨i, hi, h⟩
    split at h
    · next v hv =>
      cases h
      exact ⟨v, hv, rfl⟩
    · cases h
  · rintro ⟨v, hv, e⟩
    refine ⟨q.1, List.mem_range.mpr (List.getElem?_eq_some_iff.mp hv).1, ?_⟩
    rw [hv]
    show some (q.1, cx_v g v) = some q
    rw [← e]
def cx_k : Nat → Option Value → Option Value
  | 0, some (.long _) => none
  | 0, some (.double _) => none
  | _, o => o
def cx_set : cx_L → Nat → Value → cx_L
  | [], _, _ => []
  | _ :: l, 0, v => some v :: l
  | o :: l, i + 1, v => cx_k i o :: cx_set l i v
def cx_clr : cx_L → Nat → cx_L
  | [], _ => []
  | _ :: l, 0 => none :: l
  | o :: l, i + 1 => o :: cx_clr l i
theorem cx_k_some {i : Nat} {o : Option Value} {x : Value} (h : cx_k i o = some x) : o = some x ∧ ¬ (i = 0 ∧ x.category = 2) := by
  cases o with
  | none => cases i <;> cases h
  | some y =>
    cases i with
    | zero => cases y <;> first | (cases h; done) | (cases h; exact ⟨rfl, fun q => by simp [Value.category] at q⟩)
    | succ j =>
      have h2 : some y = some x := h
      exact ⟨h2, fun q => by omega⟩
theorem cx_set_at {v x : Value} : ∀ {L : cx_L} {i j : Nat}, (cx_set L i v)[j]? = some (some x) → (j = i ∧ x = v) ∨ (¬ j = i ∧ L[j]? = some (some x) ∧ ¬ (j + 1 = i ∧ x.category = 2))
  | [], i, j, h => by simp [cx_set] at h
  | o :: l, 0, j, h => by
    cases j with
    | zero =>
      left
      simp [cx_set] at h
      exact ⟨rfl, h.symm⟩
    | succ j =>
      right
      simp [cx_set] at h
      exact ⟨by omega, by simpa using h, by omega⟩
  | o :: l, i + 1, j, h => by
    cases j with
    | zero =>
      right
      have h1 : cx_k i o = some x := by simpa [cx_set] using h
      obtain ⟨h2, h3⟩ := cx_k_some h1
      exact ⟨by omega, by rw [h2]; rfl, fun q => h3 ⟨by omega, q.2⟩⟩
    | succ j =>
      have h1 : (cx_set l i v)[j]? = some (some x) := by simpa [cx_set] using h
      rcases cx_set_at h1 with ⟨a, b⟩ | ⟨a, b, c⟩
      · exact Or.inl ⟨by omega, b⟩
      · exact Or.inr ⟨by omega, by simpa using b, fun q => c ⟨by omega, q.2⟩⟩
theorem cx_clr_at {x : Value} : ∀ {L : cx_L} {i j : Nat}, (cx_clr L i)[j]? = some (some x) → ¬ j = i ∧ L[j]? = some (some x)
  | [], i, j, h => by simp [cx_clr] at h
  | o :: l, 0, j, h => by
    cases j with
    | zero => simp [cx_clr] at h
    | succ j => exact ⟨by omega, by simpa [cx_clr] using h⟩
  | o :: l, i + 1, j, h => by
    cases j with
    | zero => exact ⟨by omega, by simpa [cx_clr] using h⟩
    | succ j =>
      have h1 : (cx_clr l i)[j]? = some (some x) := by simpa [cx_clr] using h
      obtain ⟨a, b⟩ := cx_clr_at h1
      exact ⟨by omega, by simpa using b⟩
theorem cx_has_sub {ls : Array Slot} {nL : Nat} {l l' : List (Nat × Value)} (h : lv_has ls nL l) (hs : ∀ q ∈ l', q ∈ l) : lv_has ls nL l' := ⟨h.1, h.2.1, fun q hq => h.2.2 q (hs q hq)⟩
theorem cx_st1 {g : Nat × Nat} {L : cx_L} {ls : Array Slot} {nL i : Nat} {v : Value} (h : lv_has ls nL ((i, cx_v g v) :: (cx_al g L).filter (fun q => !(q.1 == i) && !(q.1 + 1 == i && q.2.category == 2)))) : lv_has ls nL (cx_al g (cx_set L i v)) := by
  refine cx_has_sub h fun q hq => ?_
  obtain ⟨x, h1, h2⟩ := cx_al_mem.mp hq
  rcases cx_set_at h1 with ⟨a, b⟩ | ⟨a, b, c⟩
  · refine List.mem_cons.mpr (Or.inl ?_)
    rw [← a, ← b, ← h2]
  · refine List.mem_cons_of_mem _ (List.mem_filter.mpr ⟨cx_al_mem.mpr ⟨x, b, h2⟩, ?_⟩)
    rw [h2, cx_cat]
    simp only [Bool.and_eq_true, Bool.not_eq_true', beq_eq_false_iff_ne, Bool.and_eq_false_iff]
    refine ⟨a, ?_⟩
    by_cases h3 : q.1 + 1 = i
    · exact Or.inr fun q2 => c ⟨h3, q2⟩
    · exact Or.inl h3
theorem cx_st2 {g : Nat × Nat} {L : cx_L} {ls : Array Slot} {nL i : Nat} {v : Value} (h : lv_has ls nL ((i, cx_v g v) :: (cx_al g L).filter (fun q => !(q.1 == i) && (!(q.1 == i + 1) && !(q.1 + 1 == i && q.2.category == 2))))) : lv_has ls nL (cx_al g (cx_clr (cx_set L i v) (i + 1))) := by
  refine cx_has_sub h fun q hq => ?_
  obtain ⟨x, h0, h2⟩ := cx_al_mem.mp hq
  obtain ⟨hne, h1⟩ := cx_clr_at h0
  rcases cx_set_at h1 with ⟨a, b⟩ | ⟨a, b, c⟩
  · refine List.mem_cons.mpr (Or.inl ?_)
    rw [← a, ← b, ← h2]
  · refine List.mem_cons_of_mem _ (List.mem_filter.mpr ⟨cx_al_mem.mpr ⟨x, b, h2⟩, ?_⟩)
    rw [h2, cx_cat]
    simp only [Bool.and_eq_true, Bool.not_eq_true', beq_eq_false_iff_ne, Bool.and_eq_false_iff]
    refine ⟨a, hne, ?_⟩
    by_cases h3 : q.1 + 1 = i
    · exact Or.inr fun q2 => c ⟨h3, q2⟩
    · exact Or.inl h3
theorem cx_ld {g : Nat × Nat} {L : cx_L} {ls : Array Slot} {nL i : Nat} {v : Value} (h : lv_has ls nL (cx_al g L)) (hv : L[i]? = some (some v)) : ls[i]? = some (.val (cx_v g v)) := h.2.2 (i, cx_v g v) (cx_al_mem.mpr ⟨v, hv, rfl⟩)
theorem cx_ldk {g : Nat × Nat} {L : cx_L} {i : Nat} {v : Value} (hv : L[i]? = some (some v)) : ∃ k : Nat, (cx_al g L)[k]? = some (i, cx_v g v) := by
  have h : (i, cx_v g v) ∈ cx_al g L := cx_al_mem.mpr ⟨v, hv, rfl⟩
  obtain ⟨k, hk⟩ := List.getElem?_of_mem h
  exact ⟨k, hk⟩
-- the operand stack, the variables and the cells, each with what follows
def cx_i1 (st : List Value) (k : Int32 → List Value → Prop) : Prop := match st with
  | .int x :: r => k x r
  | _ => False
def cx_i2 (st : List Value) (k : Int32 → Int32 → List Value → Prop) : Prop := match st with
  | .int y :: .int x :: r => k x y r
  | _ => False
def cx_l1 (st : List Value) (k : Int64 → List Value → Prop) : Prop := match st with
  | .long x :: r => k x r
  | _ => False
def cx_l2 (st : List Value) (k : Int64 → Int64 → List Value → Prop) : Prop := match st with
  | .long y :: .long x :: r => k x y r
  | _ => False
def cx_il (st : List Value) (k : Int64 → Int32 → List Value → Prop) : Prop := match st with
  | .int y :: .long x :: r => k x y r
  | _ => False
def cx_r1 (st : List Value) (k : Nat → List Value → Prop) : Prop := match st with
  | .ref q :: r => k q r
  | _ => False
def cx_ir (st : List Value) (k : Nat → Int32 → List Value → Prop) : Prop := match st with
  | .int i :: .ref q :: r => k q i r
  | _ => False
def cx_iir (st : List Value) (k : Nat → Int32 → Int32 → List Value → Prop) : Prop := match st with
  | .int x :: .int i :: .ref q :: r => k q i x r
  | _ => False
def cx_lir (st : List Value) (k : Nat → Int32 → Int64 → List Value → Prop) : Prop := match st with
  | .long x :: .int i :: .ref q :: r => k q i x r
  | _ => False
def cx_vr (st : List Value) (k : Nat → Value → List Value → Prop) : Prop := match st with
  | v :: .ref q :: r => k q v r
  | _ => False
def cx_d1 (st : List Value) (k : Value → List Value → Prop) : Prop := match st with
  | .int x :: r => k (.int x) r
  | .ref x :: r => k (.ref x) r
  | _ => False
def cx_cpy (st : List Value) (k : Nat → Int32 → Nat → Int32 → Int32 → List Value → Prop) : Prop := match st with
  | .int n :: .int dp :: .ref q :: .int sp :: .ref p :: r => k p sp q dp n r
  | _ => False
theorem cx_i1_e {st : List Value} {k : Int32 → List Value → Prop} (h : cx_i1 st k) : ∃ x r, st = .int x :: r ∧ k x r := by
  unfold cx_i1 at h
  split at h
  · exact ⟨_, _, rfl, h⟩
  · exact h.elim
theorem cx_i2_e {st : List Value} {k : Int32 → Int32 → List Value → Prop} (h : cx_i2 st k) : ∃ x y r, st = .int y :: .int x :: r ∧ k x y r := by
  unfold cx_i2 at h
  split at h
  · exact ⟨_, _, _, rfl, h⟩
  · exact h.elim
theorem cx_l1_e {st : List Value} {k : Int64 → List Value → Prop} (h : cx_l1 st k) : ∃ x r, st = .long x :: r ∧ k x r := by
  unfold cx_l1 at h
  split at h
  · exact ⟨_, _, rfl, h⟩
  · exact h.elim
theorem cx_l2_e {st : List Value} {k : Int64 → Int64 → List Value → Prop} (h : cx_l2 st k) : ∃ x y r, st = .long y :: .long x :: r ∧ k x y r := by
  unfold cx_l2 at h
  split at h
  · exact ⟨_, _, _, rfl, h⟩
  · exact h.elim
theorem cx_il_e {st : List Value} {k : Int64 → Int32 → List Value → Prop} (h : cx_il st k) : ∃ x y r, st = .int y :: .long x :: r ∧ k x y r := by
  unfold cx_il at h
  split at h
  · exact ⟨_, _, _, rfl, h⟩
  · exact h.elim
theorem cx_r1_e {st : List Value} {k : Nat → List Value → Prop} (h : cx_r1 st k) : ∃ x r, st = .ref x :: r ∧ k x r := by
  unfold cx_r1 at h
  split at h
  · exact ⟨_, _, rfl, h⟩
  · exact h.elim
theorem cx_ir_e {st : List Value} {k : Nat → Int32 → List Value → Prop} (h : cx_ir st k) : ∃ q i r, st = .int i :: .ref q :: r ∧ k q i r := by
  unfold cx_ir at h
  split at h
  · exact ⟨_, _, _, rfl, h⟩
  · exact h.elim
theorem cx_iir_e {st : List Value} {k : Nat → Int32 → Int32 → List Value → Prop} (h : cx_iir st k) : ∃ q i x r, st = .int x :: .int i :: .ref q :: r ∧ k q i x r := by
  unfold cx_iir at h
  split at h
  · exact ⟨_, _, _, _, rfl, h⟩
  · exact h.elim
theorem cx_lir_e {st : List Value} {k : Nat → Int32 → Int64 → List Value → Prop} (h : cx_lir st k) : ∃ q i x r, st = .long x :: .int i :: .ref q :: r ∧ k q i x r := by
  unfold cx_lir at h
  split at h
  · exact ⟨_, _, _, _, rfl, h⟩
  · exact h.elim
theorem cx_vr_e {st : List Value} {k : Nat → Value → List Value → Prop} (h : cx_vr st k) : ∃ q v r, st = v :: .ref q :: r ∧ k q v r := by
  unfold cx_vr at h
  split at h
  · exact ⟨_, _, _, rfl, h⟩
  · exact h.elim
theorem cx_d1_e {st : List Value} {k : Value → List Value → Prop} (h : cx_d1 st k) : ∃ v r, st = v :: r ∧ v.category = 1 ∧ k v r := by
  unfold cx_d1 at h
  split at h
  · exact ⟨_, _, rfl, rfl, h⟩
  · exact ⟨_, _, rfl, rfl, h⟩
  · exact h.elim
theorem cx_cpy_e {st : List Value} {k : Nat → Int32 → Nat → Int32 → Int32 → List Value → Prop} (h : cx_cpy st k) : ∃ p sp q dp n r, st = .int n :: .int dp :: .ref q :: .int sp :: .ref p :: r ∧ k p sp q dp n r := by
  unfold cx_cpy at h
  split at h
  · exact ⟨_, _, _, _, _, _, rfl, h⟩
  · exact h.elim
def cx_gi (L : cx_L) (i : Nat) (k : Int32 → Prop) : Prop := match L[i]? with
  | some (some (.int x)) => k x
  | _ => False
def cx_gl (L : cx_L) (i : Nat) (k : Int64 → Prop) : Prop := match L[i]? with
  | some (some (.long x)) => k x
  | _ => False
def cx_gr (L : cx_L) (i : Nat) (k : Nat → Prop) : Prop := match L[i]? with
  | some (some (.ref x)) => k x
  | _ => False
theorem cx_gi_e {L : cx_L} {i : Nat} {k : Int32 → Prop} (h : cx_gi L i k) : ∃ x, L[i]? = some (some (.int x)) ∧ k x := by
  unfold cx_gi at h
  split at h
  · next x hx => exact ⟨x, hx, h⟩
  · exact h.elim
theorem cx_gl_e {L : cx_L} {i : Nat} {k : Int64 → Prop} (h : cx_gl L i k) : ∃ x, L[i]? = some (some (.long x)) ∧ k x := by
  unfold cx_gl at h
  split at h
  · next x hx => exact ⟨x, hx, h⟩
  · exact h.elim
theorem cx_gr_e {L : cx_L} {i : Nat} {k : Nat → Prop} (h : cx_gr L i k) : ∃ x, L[i]? = some (some (.ref x)) ∧ k x := by
  unfold cx_gr at h
  split at h
  · next x hx => exact ⟨x, hx, h⟩
  · exact h.elim
def cx_o {α : Type} (o : Option α) (k : α → Prop) : Prop := match o with
  | some v => k v
  | none => False
theorem cx_o_e {α : Type} {o : Option α} {k : α → Prop} (h : cx_o o k) : ∃ v, o = some v ∧ k v := by
  cases o with
  | none => exact h.elim
  | some v => exact ⟨v, rfl, h⟩
def cx_f (e : cx_E) (ci k : Nat) : Option Value := match e with
  | .inr (c, fs) => if c = ci then fs[k]? else none
  | .inl _ => none
def cx_fs (e : cx_E) (ci k : Nat) (x : Value) : Option cx_E := match e with
  | .inr (c, fs) => if c = ci ∧ k < fs.length then some (.inr (ci, fs.set k x)) else none
  | .inl _ => none
def cx_ia (e : cx_E) : Option (Nat × (Nat → Int32)) := match e with
  | .inl (0, n, .inl f) => some (n, f)
  | _ => none
def cx_la (e : cx_E) : Option (Nat × (Nat → Int64)) := match e with
  | .inl (1, n, .inr f) => some (n, f)
  | _ => none
def cx_za (e : cx_E) : Option (Nat × (Nat → Int32)) := match e with
  | .inl (2, n, .inl f) => some (n, f)
  | _ => none
def cx_ci (e : cx_E) : Option Nat := match e with
  | .inr (c, _) => some c
  | .inl _ => none
def cx_sa (X : cx_X) (w : cx_W) (n q : Nat) : Option (Nat × (Nat → Int32)) := if q = 1000000 then X else if q < n then cx_ia (w q) else none
theorem cx_f_e {e : cx_E} {ci k : Nat} {v : Value} (h : cx_f e ci k = some v) : ∃ fs, e = .inr (ci, fs) ∧ fs[k]? = some v := by
  unfold cx_f at h
  split at h
  · next c fs =>
    by_cases hc : c = ci
    · rw [if_pos hc] at h
      subst hc
      exact ⟨fs, rfl, h⟩
    · rw [if_neg hc] at h
      cases h
  · cases h
theorem cx_fs_e {e e2 : cx_E} {ci k : Nat} {x : Value} (h : cx_fs e ci k x = some e2) : ∃ fs, e = .inr (ci, fs) ∧ k < fs.length ∧ e2 = .inr (ci, fs.set k x) := by
  unfold cx_fs at h
  split at h
  · next c fs =>
    by_cases hc : c = ci ∧ k < fs.length
    · rw [if_pos hc] at h
      obtain ⟨rfl, h2⟩ := hc
      exact ⟨fs, rfl, h2, (Option.some.inj h).symm⟩
    · rw [if_neg hc] at h
      cases h
  · cases h
theorem cx_ia_e {e : cx_E} {p : Nat × (Nat → Int32)} (h : cx_ia e = some p) : e = .inl (0, p.1, .inl p.2) := by
  unfold cx_ia at h
  split at h
  · cases h
    rfl
  · cases h
theorem cx_la_e {e : cx_E} {p : Nat × (Nat → Int64)} (h : cx_la e = some p) : e = .inl (1, p.1, .inr p.2) := by
  unfold cx_la at h
  split at h
  · cases h
    rfl
  · cases h
theorem cx_za_e {e : cx_E} {p : Nat × (Nat → Int32)} (h : cx_za e = some p) : e = .inl (2, p.1, .inl p.2) := by
  unfold cx_za at h
  split at h
  · cases h
    rfl
  · cases h
theorem cx_ci_e {e : cx_E} {c : Nat} (h : cx_ci e = some c) : ∃ fs, e = .inr (c, fs) := by
  unfold cx_ci at h
  split at h
  · cases h
    exact ⟨_, rfl⟩
  · cases h
-- rows of a method: place, instruction, three numbers and a constant that a program has read off the pool; a method: name, code, number of variables, answer, number of its own kind, places where a reading stops (heads of loops), rows
abbrev cx_R : Type := Nat × Instr × Nat × Nat × Nat × Int32
abbrev cx_M : Type := MethodName × ByteArray × Nat × Option FieldType × Nat × List Nat × List cx_R
abbrev cx_y (M : cx_M) : MethodName := M.1
abbrev cx_b (M : cx_M) : ByteArray := M.2.1
abbrev cx_n (M : cx_M) : Nat := M.2.2.1
abbrev cx_r (M : cx_M) : Option FieldType := M.2.2.2.1
abbrev cx_c (M : cx_M) : Nat := M.2.2.2.2.1
abbrev cx_h (M : cx_M) : List Nat := M.2.2.2.2.2.1
abbrev cx_t (M : cx_M) : List cx_R := M.2.2.2.2.2.2
def cx_look : List cx_R → Nat → Option (Instr × Nat × Nat × Nat × Int32)
  | [], _ => none
  | r :: l, pc => if r.1 = pc then some r.2 else cx_look l pc
theorem cx_look_mem {pc : Nat} {x : Instr × Nat × Nat × Nat × Int32} : ∀ {l : List cx_R}, cx_look l pc = some x → (pc, x) ∈ l
  | [], h => by cases h
  | r :: l, h => by
    unfold cx_look at h
    by_cases hr : r.1 = pc
    · rw [if_pos hr] at h
      have h2 := Option.some.inj h
      subst hr
      subst h2
      exact List.mem_cons_self
    · rw [if_neg hr] at h
      exact List.mem_cons_of_mem _ (cx_look_mem h)
def cx_len : Instr → Nat
  | .bipush _ | .ldc _ | .iload _ | .lload _ | .aload _ | .istore _ | .lstore _ | .astore _ | .newarray _ => 2
  | .sipush _ | .ldc2_w _ | .iinc _ _ | .ifCond _ _ | .if_icmp _ _ | .goto _ | .getfield _ | .putfield _ | .new _ | .invokevirtual _ | .invokespecial _ | .invokestatic _ => 3
  | _ => 1
-- calls: what is handed over
def cx_pop : Nat → List Value → List Value → (List Value → List Value → Prop) → Prop
  | 0, as, st, k => k as st
  | _ + 1, _, [], _ => False
  | n + 1, as, v :: st, k => cx_pop n (v :: as) st k
theorem cx_pop_e {k : List Value → List Value → Prop} : ∀ {n : Nat} {as st : List Value}, cx_pop n as st k → ∃ bs r, st = bs.reverse ++ r ∧ bs.length = n ∧ k (bs ++ as) r
  | 0, as, st, h => ⟨[], st, rfl, rfl, h⟩
  | n + 1, as, [], h => h.elim
  | n + 1, as, v :: st, h => by
    obtain ⟨bs, r, h1, h2, h3⟩ := cx_pop_e (n := n) (as := v :: as) (st := st) h
    refine ⟨bs ++ [v], r, ?_, ?_, ?_⟩
    · rw [h1, List.reverse_append]
      rfl
    · rw [List.length_append, h2]
      rfl
    · rw [List.append_assoc]
      exact h3
def cx_cs : List Value → Nat
  | [] => 0
  | .int _ :: r => 1 + cx_cs r
  | .ref _ :: r => 1 + cx_cs r
  | .long _ :: r => 2 + cx_cs r
  | .double _ :: r => 2 + cx_cs r
  | _ :: r => 1 + cx_cs r
theorem cx_cs_eq (g : Nat × Nat) : ∀ (r : List Value), ((r.map (cx_v g)).map fun v => v.category).sum = cx_cs r
  | [] => rfl
  | v :: r => by
    have h := cx_cs_eq g r
    cases v <;> simp [cx_cs, cx_v, Value.category] at h ⊢ <;> omega
def cx_push : Option Value → List Value → List Value
  | none, st => st
  | some v, st => v :: st
theorem cx_push_eq (g : Nat × Nat) (o : Option Value) (st : List Value) : (o.map (cx_v g)).toList ++ st.map (cx_v g) = (cx_push o st).map (cx_v g) := by cases o <;> rfl
def cx_in : Nat → List Value → cx_L
  | 0, _ => []
  | n + 1, [] => none :: cx_in n []
  | n + 1, v :: vs => some v :: cx_in n vs
def cx_a1 : Nat → List Value → Bool
  | _, [] => true
  | n + 1, .int _ :: r => cx_a1 n r
  | n + 1, .ref _ :: r => cx_a1 n r
  | _, _ => false
def cx_pf : Nat → Value → Prop
  | 0, .int _ => True
  | 1, .int y => y = 0 ∨ y = 1
  | 2, .ref _ => True
  | 3, .long _ => True
  | 4, .int _ => True
  | 5, .int y => y = 0 ∨ y = 1
  | 6, .ref _ => True
  | 7, .long _ => True
  | _, _ => False
def cx_new (t n : Nat) : cx_E := match t with
  | 0 => .inl (0, n, .inl fun _ => 0)
  | 1 => .inl (1, n, .inr fun _ => 0)
  | _ => .inl (2, n, .inl fun _ => 0)
def cx_rc (as : List Value) (w : cx_W) (n c : Nat) : Prop := match as with
  | .ref q :: _ => q < n ∧ cx_ci (w q) = some c
  | _ => False
def cx_rr (as : List Value) : Prop := match as with
  | .ref _ :: _ => True
  | _ => False
def cx_cnd (o : ClassFile.Cond) (x y : Int32) (t f : Prop) : Prop := match o with
  | .eq => (x = y → t) ∧ (¬ x = y → f)
  | .ne => (x = y → f) ∧ (¬ x = y → t)
  | .lt => (x < y → t) ∧ (¬ x < y → f)
  | .ge => (y ≤ x → t) ∧ (¬ y ≤ x → f)
  | .gt => (y < x → t) ∧ (¬ y < x → f)
  | .le => (x ≤ y → t) ∧ (¬ x ≤ y → f)
/-- one instruction, as a condition on what stands before it; k: what must hold behind it; Q: at an end -/
def cx_step (dfl : Nat → List Value) (X : cx_X) (d mc ms : Nat) (call : Nat → List Value → cx_W → cx_U → cx_Q → Prop) (i : Instr) (a b c : Nat) (v : Int32) (pc : Nat) (L : cx_L) (st : List Value) (w : cx_W) (u : cx_U) (Q : cx_Q) (k : cx_K) : Prop :=
  match i with
  | .iconst _ => k (pc + 1) L (.int v :: st) w u
  | .bipush _ => k (pc + 2) L (.int v :: st) w u
  | .sipush _ => k (pc + 3) L (.int v :: st) w u
  | .ldc _ => k (pc + 2) L (.int v :: st) w u
  | .ldc2_w _ => k (pc + 3) L (.long v.toInt64 :: st) w u
  | .lconst _ => k (pc + 1) L (.long v.toInt64 :: st) w u
  | .iload _ => cx_gi L a fun x => k (pc + 2) L (.int x :: st) w u
  | .iload_n _ => cx_gi L a fun x => k (pc + 1) L (.int x :: st) w u
  | .lload _ => cx_gl L a fun x => k (pc + 2) L (.long x :: st) w u
  | .lload_n _ => cx_gl L a fun x => k (pc + 1) L (.long x :: st) w u
  | .aload _ => cx_gr L a fun x => k (pc + 2) L (.ref x :: st) w u
  | .aload_n _ => cx_gr L a fun x => k (pc + 1) L (.ref x :: st) w u
  | .istore _ => cx_i1 st fun x r => k (pc + 2) (cx_set L a (.int x)) r w u
  | .istore_n _ => cx_i1 st fun x r => k (pc + 1) (cx_set L a (.int x)) r w u
  | .astore _ => cx_r1 st fun x r => k (pc + 2) (cx_set L a (.ref x)) r w u
  | .astore_n _ => cx_r1 st fun x r => k (pc + 1) (cx_set L a (.ref x)) r w u
  | .lstore _ => cx_l1 st fun x r => k (pc + 2) (cx_clr (cx_set L a (.long x)) (a + 1)) r w u
  | .lstore_n _ => cx_l1 st fun x r => k (pc + 1) (cx_clr (cx_set L a (.long x)) (a + 1)) r w u
  | .iinc _ _ => cx_gi L a fun x => k (pc + 3) (cx_set L a (.int (x + v))) st w u
  | .iadd => cx_i2 st fun x y r => k (pc + 1) L (.int (x + y) :: r) w u
  | .isub => cx_i2 st fun x y r => k (pc + 1) L (.int (x - y) :: r) w u
  | .imul => cx_i2 st fun x y r => k (pc + 1) L (.int (x * y) :: r) w u
  | .iand => cx_i2 st fun x y r => k (pc + 1) L (.int (x &&& y) :: r) w u
  | .ior => cx_i2 st fun x y r => k (pc + 1) L (.int (x ||| y) :: r) w u
  | .ixor => cx_i2 st fun x y r => k (pc + 1) L (.int (x ^^^ y) :: r) w u
  | .ishl => cx_i2 st fun x y r => k (pc + 1) L (.int (x <<< (y &&& 31)) :: r) w u
  | .ishr => cx_i2 st fun x y r => k (pc + 1) L (.int (x >>> (y &&& 31)) :: r) w u
  | .idiv => cx_i2 st fun x y r => ¬ y = 0 ∧ k (pc + 1) L (.int (x / y) :: r) w u
  | .irem => cx_i2 st fun x y r => ¬ y = 0 ∧ k (pc + 1) L (.int (x - x / y * y) :: r) w u
  | .ladd => cx_l2 st fun x y r => k (pc + 1) L (.long (x + y) :: r) w u
  | .lsub => cx_l2 st fun x y r => k (pc + 1) L (.long (x - y) :: r) w u
  | .lmul => cx_l2 st fun x y r => k (pc + 1) L (.long (x * y) :: r) w u
  | .land => cx_l2 st fun x y r => k (pc + 1) L (.long (x &&& y) :: r) w u
  | .lor => cx_l2 st fun x y r => k (pc + 1) L (.long (x ||| y) :: r) w u
  | .lshl => cx_il st fun x y r => k (pc + 1) L (.long (x <<< (y.toInt64 &&& 63)) :: r) w u
  | .lshr => cx_il st fun x y r => k (pc + 1) L (.long (x >>> (y.toInt64 &&& 63)) :: r) w u
  | .lcmp => cx_l2 st fun x y r => k (pc + 1) L (.int (lg_cmp x y) :: r) w u
  | .i2l => cx_i1 st fun x r => k (pc + 1) L (.long x.toInt64 :: r) w u
  | .l2i => cx_l1 st fun x r => k (pc + 1) L (.int x.toInt32 :: r) w u
  | .dup => cx_d1 st fun x r => k (pc + 1) L (x :: x :: r) w u
  | .dup_x1 => cx_d1 st fun x r => cx_d1 r fun y r2 => k (pc + 1) L (x :: y :: x :: r2) w u
  | .dup2 => cx_d1 st fun x r => cx_d1 r fun y r2 => k (pc + 1) L (x :: y :: x :: y :: r2) w u
  | .ifCond o _ => cx_i1 st fun x r => cx_cnd o x 0 (k a L r w u) (k (pc + 3) L r w u)
  | .if_icmp o _ => cx_i2 st fun x y r => cx_cnd o x y (k a L r w u) (k (pc + 3) L r w u)
  | .goto _ => k a L st w u
  | .tableswitch _ lo hi offs => cx_i1 st fun x r => (x.toInt < lo ∨ hi < x.toInt → k a L r w u) ∧ ∀ (o : Int) (t : Nat), ¬ x.toInt < lo → ¬ hi < x.toInt → offs[(x.toInt - lo).toNat]? = some o → (pc : Int) + o = (t : Int) → k t L r w u
  | .ireturn => cx_i1 st fun x r => r = [] ∧ (c = 1 → x = 0 ∨ x = 1) ∧ u.2.1 = mc ∧ u.2.2 ≤ ms ∧ Q (some (.int x)) w u
  | .lreturn => cx_l1 st fun x r => r = [] ∧ u.2.1 = mc ∧ u.2.2 ≤ ms ∧ Q (some (.long x)) w u
  | .return_ => st = [] ∧ u.2.1 = mc ∧ u.2.2 ≤ ms ∧ Q none w u
  | .getfield _ => cx_r1 st fun q r => q < u.1 ∧ cx_o (cx_f (w q) a b) fun x => k (pc + 3) L (x :: r) w u
  | .putfield _ => cx_vr st fun q x r => q < u.1 ∧ cx_pf c x ∧ cx_o (cx_fs (w q) a b x) fun e => k (pc + 3) L r (cx_up w q e) u
  | .iaload => cx_ir st fun q j r => cx_o (cx_sa X w u.1 q) fun p => vp_in j p.1 ∧ k (pc + 1) L (.int (p.2 j.toNatClampNeg) :: r) w u
  | .laload => cx_ir st fun q j r => q < u.1 ∧ cx_o (cx_la (w q)) fun p => vp_in j p.1 ∧ k (pc + 1) L (.long (p.2 j.toNatClampNeg) :: r) w u
  | .baload => cx_ir st fun q j r => q < u.1 ∧ cx_o (cx_za (w q)) fun p => vp_in j p.1 ∧ k (pc + 1) L (.int (p.2 j.toNatClampNeg) :: r) w u
  | .iastore => cx_iir st fun q j x r => q < u.1 ∧ cx_o (cx_ia (w q)) fun p => vp_in j p.1 ∧ k (pc + 1) L r (cx_up w q (.inl (0, p.1, .inl (upd p.2 j.toNatClampNeg x)))) u
  | .lastore => cx_lir st fun q j x r => q < u.1 ∧ cx_o (cx_la (w q)) fun p => vp_in j p.1 ∧ k (pc + 1) L r (cx_up w q (.inl (1, p.1, .inr (vp_updL p.2 j.toNatClampNeg x)))) u
  | .bastore => cx_iir st fun q j x r => q < u.1 ∧ cx_o (cx_za (w q)) fun p => vp_in j p.1 ∧ (x = 0 ∨ x = 1) ∧ k (pc + 1) L r (cx_up w q (.inl (2, p.1, .inl (upd p.2 j.toNatClampNeg x)))) u
  | .arraylength => cx_r1 st fun q r => cx_o (cx_sa X w u.1 q) fun p => k (pc + 1) L (.int (Int32.ofNat p.1) :: r) w u
  | .newarray _ => cx_i1 st fun n r => ¬ n < 0 ∧ n.toNatClampNeg * 8 ≤ 536870912 ∧ u.2.1 + 1 ≤ mc ∧ u.2.2 + n.toNatClampNeg ≤ ms ∧ u.1 < 1000000 ∧ k (pc + 2) L (.ref u.1 :: r) (cx_up w u.1 (cx_new a n.toNatClampNeg)) (u.1 + 1, u.2.1 + 1, u.2.2 + n.toNatClampNeg)
  | .new _ => u.2.1 + 1 ≤ mc ∧ u.2.2 + (dfl a).length ≤ ms ∧ u.1 < 1000000 ∧ k (pc + 3) L (.ref u.1 :: st) (cx_up w u.1 (.inr (a, dfl a))) (u.1 + 1, u.2.1 + 1, u.2.2 + (dfl a).length)
  | .invokevirtual _ => cx_pop (b + 1) [] st fun as r => cx_cs r ≤ 8 ∧ cx_rc as w u.1 c ∧ call a as w u fun o w2 u2 => k (pc + 3) L (cx_push o r) w2 u2
  | .invokespecial _ => match c with
    | 0 => cx_r1 st fun _ r => 1 ≤ d ∧ cx_cs r ≤ 8 ∧ k (pc + 3) L r w u
    | _ => cx_pop (b + 1) [] st fun as r => cx_cs r ≤ 8 ∧ cx_rr as ∧ call a as w u fun o w2 u2 => k (pc + 3) L (cx_push o r) w2 u2
  | .invokestatic _ => match c with
    | 0 => cx_pop b [] st fun as r => cx_cs r ≤ 8 ∧ call a as w u fun o w2 u2 => k (pc + 3) L (cx_push o r) w2 u2
    | 2 => cx_i2 st fun x y r => 1 ≤ d ∧ cx_cs r ≤ 8 ∧ u.2.1 ≤ mc ∧ u.2.2 ≤ ms ∧ k (pc + 3) L (.int (if x < y then y else x) :: r) w u
    | 3 => cx_i2 st fun x y r => 1 ≤ d ∧ cx_cs r ≤ 8 ∧ u.2.1 ≤ mc ∧ u.2.2 ≤ ms ∧ k (pc + 3) L (.int (if y < x then y else x) :: r) w u
    | 4 => cx_cpy st fun p sp q dp n r => 1 ≤ d ∧ cx_cs r ≤ 8 ∧ p < u.1 ∧ q < u.1 ∧ cx_o (cx_ia (w p)) fun f => cx_o (cx_ia (w q)) fun h => ¬ sp < 0 ∧ ¬ dp < 0 ∧ ¬ n < 0 ∧ sp.toNatClampNeg + n.toNatClampNeg ≤ f.1 ∧ dp.toNatClampNeg + n.toNatClampNeg ≤ h.1 ∧ k (pc + 3) L r (cx_up w q (.inl (0, h.1, .inl (va_cpy f.2 h.2 sp.toNatClampNeg dp.toNatClampNeg n.toNatClampNeg)))) u
    | _ => False
  | _ => False
