/-! How a reading is worked out: rules for simp. Own work. -/
theorem ev_gi0 (x : Int32) (L : cx_L) (k : Int32 → Prop) : cx_gi (some (.int x) :: L) 0 k = k x := rfl
theorem ev_gi1 (o : Option Value) (L : cx_L) (i : Nat) (k : Int32 → Prop) : cx_gi (o :: L) (i + 1) k = cx_gi L i k := rfl
theorem ev_gl0 (x : Int64) (L : cx_L) (k : Int64 → Prop) : cx_gl (some (.long x) :: L) 0 k = k x := rfl
theorem ev_gl1 (o : Option Value) (L : cx_L) (i : Nat) (k : Int64 → Prop) : cx_gl (o :: L) (i + 1) k = cx_gl L i k := rfl
theorem ev_gr0 (x : Nat) (L : cx_L) (k : Nat → Prop) : cx_gr (some (.ref x) :: L) 0 k = k x := rfl
theorem ev_gr1 (o : Option Value) (L : cx_L) (i : Nat) (k : Nat → Prop) : cx_gr (o :: L) (i + 1) k = cx_gr L i k := rfl
theorem ev_set0 (o : Option Value) (L : cx_L) (v : Value) : cx_set (o :: L) 0 v = some v :: L := rfl
theorem ev_set1 (o : Option Value) (L : cx_L) (i : Nat) (v : Value) : cx_set (o :: L) (i + 1) v = cx_k i o :: cx_set L i v := rfl
theorem ev_clr0 (o : Option Value) (L : cx_L) : cx_clr (o :: L) 0 = none :: L := rfl
theorem ev_clr1 (o : Option Value) (L : cx_L) (i : Nat) : cx_clr (o :: L) (i + 1) = o :: cx_clr L i := rfl
theorem ev_k0 (i : Nat) (o : Option Value) : cx_k (i + 1) o = o := by cases o <;> rfl
theorem ev_k1 (i : Nat) : cx_k i none = none := by cases i <;> rfl
theorem ev_k2 (i : Nat) (x : Int32) : cx_k i (some (.int x)) = some (.int x) := by cases i <;> rfl
theorem ev_k3 (i : Nat) (x : Nat) : cx_k i (some (.ref x)) = some (.ref x) := by cases i <;> rfl
theorem ev_i1 (x : Int32) (r : List Value) (k : Int32 → List Value → Prop) : cx_i1 (.int x :: r) k = k x r := rfl
theorem ev_i2 (x y : Int32) (r : List Value) (k : Int32 → Int32 → List Value → Prop) : cx_i2 (.int y :: .int x :: r) k = k x y r := rfl
theorem ev_l1 (x : Int64) (r : List Value) (k : Int64 → List Value → Prop) : cx_l1 (.long x :: r) k = k x r := rfl
theorem ev_l2 (x y : Int64) (r : List Value) (k : Int64 → Int64 → List Value → Prop) : cx_l2 (.long y :: .long x :: r) k = k x y r := rfl
theorem ev_il (x : Int64) (y : Int32) (r : List Value) (k : Int64 → Int32 → List Value → Prop) : cx_il (.int y :: .long x :: r) k = k x y r := rfl
theorem ev_r1 (x : Nat) (r : List Value) (k : Nat → List Value → Prop) : cx_r1 (.ref x :: r) k = k x r := rfl
theorem ev_ir (q : Nat) (i : Int32) (r : List Value) (k : Nat → Int32 → List Value → Prop) : cx_ir (.int i :: .ref q :: r) k = k q i r := rfl
theorem ev_iir (q : Nat) (i x : Int32) (r : List Value) (k : Nat → Int32 → Int32 → List Value → Prop) : cx_iir (.int x :: .int i :: .ref q :: r) k = k q i x r := rfl
theorem ev_lir (q : Nat) (i : Int32) (x : Int64) (r : List Value) (k : Nat → Int32 → Int64 → List Value → Prop) : cx_lir (.long x :: .int i :: .ref q :: r) k = k q i x r := rfl
theorem ev_vr (q : Nat) (v : Value) (r : List Value) (k : Nat → Value → List Value → Prop) : cx_vr (v :: .ref q :: r) k = k q v r := rfl
theorem ev_d1i (x : Int32) (r : List Value) (k : Value → List Value → Prop) : cx_d1 (.int x :: r) k = k (.int x) r := rfl
theorem ev_d1r (x : Nat) (r : List Value) (k : Value → List Value → Prop) : cx_d1 (.ref x :: r) k = k (.ref x) r := rfl
theorem ev_cpy (p q : Nat) (sp dp n : Int32) (r : List Value) (k : Nat → Int32 → Nat → Int32 → Int32 → List Value → Prop) : cx_cpy (.int n :: .int dp :: .ref q :: .int sp :: .ref p :: r) k = k p sp q dp n r := rfl
theorem ev_o {α : Type} (v : α) (k : α → Prop) : cx_o (some v) k = k v := rfl
theorem ev_f (c k : Nat) (fs : List Value) : cx_f (.inr (c, fs)) c k = fs[k]? := by simp [cx_f]
theorem ev_fs (c k : Nat) (fs : List Value) (x : Value) : cx_fs (.inr (c, fs)) c k x = if k < fs.length then some (.inr (c, fs.set k x)) else none := by simp [cx_fs]
theorem ev_ia (n : Nat) (f : Nat → Int32) : cx_ia (.inl (0, n, .inl f)) = some (n, f) := rfl
theorem ev_la (n : Nat) (f : Nat → Int64) : cx_la (.inl (1, n, .inr f)) = some (n, f) := rfl
theorem ev_za (n : Nat) (f : Nat → Int32) : cx_za (.inl (2, n, .inl f)) = some (n, f) := rfl
theorem ev_ci (c : Nat) (fs : List Value) : cx_ci (.inr (c, fs)) = some c := rfl
theorem ev_sa (X : cx_X) (w : cx_W) (n q : Nat) : cx_sa X w n q = if q = 1000000 then X else if q < n then cx_ia (w q) else none := rfl
theorem ev_pop0 (as st : List Value) (k : List Value → List Value → Prop) : cx_pop 0 as st k = k as st := rfl
theorem ev_pop1 (n : Nat) (as : List Value) (v : Value) (st : List Value) (k : List Value → List Value → Prop) : cx_pop (n + 1) as (v :: st) k = cx_pop n (v :: as) st k := rfl
theorem ev_cs0 : cx_cs [] = 0 := rfl
theorem ev_csi (x : Int32) (r : List Value) : cx_cs (.int x :: r) = 1 + cx_cs r := rfl
theorem ev_csr (x : Nat) (r : List Value) : cx_cs (.ref x :: r) = 1 + cx_cs r := rfl
theorem ev_csl (x : Int64) (r : List Value) : cx_cs (.long x :: r) = 2 + cx_cs r := rfl
theorem ev_push0 (st : List Value) : cx_push none st = st := rfl
theorem ev_push1 (v : Value) (st : List Value) : cx_push (some v) st = v :: st := rfl
theorem ev_in0 (vs : List Value) : cx_in 0 vs = [] := by cases vs <;> rfl
theorem ev_in1 (n : Nat) : cx_in (n + 1) [] = none :: cx_in n [] := rfl
theorem ev_in2 (n : Nat) (v : Value) (vs : List Value) : cx_in (n + 1) (v :: vs) = some v :: cx_in n vs := rfl
theorem ev_a0 (n : Nat) : cx_a1 n [] = true := by cases n <;> rfl
theorem ev_ai (n : Nat) (x : Int32) (r : List Value) : cx_a1 (n + 1) (.int x :: r) = cx_a1 n r := rfl
theorem ev_ar (n : Nat) (x : Nat) (r : List Value) : cx_a1 (n + 1) (.ref x :: r) = cx_a1 n r := rfl
theorem ev_pf0 (x : Int32) : cx_pf 0 (.int x) = True := rfl
theorem ev_pf1 (x : Int32) : cx_pf 1 (.int x) = (x = 0 ∨ x = 1) := rfl
theorem ev_pf2 (x : Nat) : cx_pf 2 (.ref x) = True := rfl
theorem ev_pf3 (x : Int64) : cx_pf 3 (.long x) = True := rfl
theorem ev_pf4 (x : Int32) : cx_pf 4 (.int x) = True := rfl
theorem ev_pf6 (x : Nat) : cx_pf 6 (.ref x) = True := rfl
theorem ev_rc (q : Nat) (as : List Value) (w : cx_W) (n c : Nat) : cx_rc (.ref q :: as) w n c = (q < n ∧ cx_ci (w q) = some c) := rfl
theorem ev_rr (q : Nat) (as : List Value) : cx_rr (.ref q :: as) = True := rfl
theorem ev_eq (x y : Int32) (t f : Prop) : cx_cnd .eq x y t f = ((x = y → t) ∧ (¬ x = y → f)) := rfl
theorem ev_ne (x y : Int32) (t f : Prop) : cx_cnd .ne x y t f = ((x = y → f) ∧ (¬ x = y → t)) := rfl
theorem ev_lt (x y : Int32) (t f : Prop) : cx_cnd .lt x y t f = ((x < y → t) ∧ (¬ x < y → f)) := rfl
theorem ev_ge (x y : Int32) (t f : Prop) : cx_cnd .ge x y t f = ((y ≤ x → t) ∧ (¬ y ≤ x → f)) := rfl
theorem ev_gt (x y : Int32) (t f : Prop) : cx_cnd .gt x y t f = ((y < x → t) ∧ (¬ y < x → f)) := rfl
theorem ev_le (x y : Int32) (t f : Prop) : cx_cnd .le x y t f = ((x ≤ y → t) ∧ (¬ x ≤ y → f)) := rfl
theorem ev_pd (d : Nat) : cx_pd (d + 1) = some d := rfl
theorem ev_up (w : cx_W) (k j : Nat) (e : cx_E) : cx_up w k e j = if j = k then e else w j := rfl
def EV := (And.intro (And.intro (And.intro (And.intro (And.intro (And.intro ev_gi0 ev_gi1) (And.intro ev_gl0 ev_gl1)) (And.intro (And.intro ev_gr0 ev_gr1) (And.intro ev_set0 ev_set1))) (And.intro (And.intro (And.intro ev_clr0 ev_clr1) (And.intro ev_k0 ev_k1)) (And.intro (And.intro ev_k2 ev_k3) (And.intro ev_i1 ev_i2)))) (And.intro (And.intro (And.intro (And.intro ev_l1 ev_l2) (And.intro ev_il ev_r1)) (And.intro (And.intro ev_ir ev_iir) (And.intro ev_lir ev_vr))) (And.intro (And.intro (And.intro ev_d1i ev_d1r) (And.intro ev_cpy ev_f)) (And.intro (And.intro ev_fs ev_ia) (And.intro ev_la ev_za))))) (And.intro (And.intro (And.intro (And.intro (And.intro ev_ci ev_sa) (And.intro ev_pop0 ev_pop1)) (And.intro (And.intro ev_cs0 ev_csi) (And.intro ev_csr ev_csl))) (And.intro (And.intro (And.intro ev_push0 ev_push1) (And.intro ev_in0 ev_in1)) (And.intro (And.intro ev_in2 ev_a0) (And.intro ev_ai ev_ar)))) (And.intro (And.intro (And.intro (And.intro ev_pf0 ev_pf1) (And.intro ev_pf2 ev_pf3)) (And.intro (And.intro ev_pf4 ev_pf6) (And.intro ev_rc ev_rr))) (And.intro (And.intro (And.intro ev_eq ev_ne) (And.intro ev_lt ev_ge)) (And.intro (And.intro ev_gt ev_le) (And.intro ev_pd ev_up))))))
theorem cx_og {α : Type} (o : Option α) (x : α) (k : α → Prop) : cx_o o k = (o.isSome = true ∧ k (o.getD x)) := by cases o <;> simp [cx_o]
theorem cx_ri0 (A P : Prop) : (([] : List Value) = [] ∧ (0 = 1 → A) ∧ P) = P := by simp
theorem cx_ri1 (A P : Prop) : (([] : List Value) = [] ∧ (1 = 1 → A) ∧ P) = (A ∧ P) := by simp
theorem cx_rl (P : Prop) : (([] : List Value) = [] ∧ P) = P := by simp
/-- what follows a small method's end, and a call's -/
def cx_vr1 (f : Nat) (X : cx_X) (M : cx_M) (d mc ms : Nat) (K : cx_K) (Q : cx_Q) (pc : Nat) (L : cx_L) (r : List Value) (u : cx_U) : cx_Q := fun o w2 _ => cx_vc f X M d mc ms K Q pc L (cx_push o r) w2 u
def cx_vr2 (f : Nat) (X : cx_X) (M : cx_M) (d mc ms : Nat) (K : cx_K) (Q : cx_Q) (pc : Nat) (L : cx_L) (r : List Value) : cx_Q := fun o w2 u2 => cx_vc f X M d mc ms K Q pc L (cx_push o r) w2 u2
def cx_no : cx_K := fun _ _ _ _ _ => False
theorem ev_vr1 (f : Nat) (X : cx_X) (M : cx_M) (d mc ms : Nat) (K : cx_K) (Q : cx_Q) (pc : Nat) (L : cx_L) (r : List Value) (u u2 : cx_U) (o : Option Value) (w2 : cx_W) : cx_vr1 f X M d mc ms K Q pc L r u o w2 u2 = cx_vc f X M d mc ms K Q pc L (cx_push o r) w2 u := rfl
theorem ev_vr2 (f : Nat) (X : cx_X) (M : cx_M) (d mc ms : Nat) (K : cx_K) (Q : cx_Q) (pc : Nat) (L : cx_L) (r : List Value) (u2 : cx_U) (o : Option Value) (w2 : cx_W) : cx_vr2 f X M d mc ms K Q pc L r o w2 u2 = cx_vc f X M d mc ms K Q pc L (cx_push o r) w2 u2 := rfl
theorem ev_is {α : Type} (v : α) : (some v).isSome = true := rfl
theorem ev_gd {α : Type} (v x : α) : (some v).getD x = v := rfl
theorem ev_g0 (v : Value) (l : List Value) : (v :: l)[0]? = some v := rfl
theorem ev_g1 (v : Value) (l : List Value) (i : Nat) : (v :: l)[i + 1]? = l[i]? := rfl
theorem ev_s0 (v x : Value) (l : List Value) : (v :: l).set 0 x = x :: l := rfl
theorem ev_s1 (v x : Value) (l : List Value) (i : Nat) : (v :: l).set (i + 1) x = v :: l.set i x := rfl
def EW := And.intro (And.intro ev_vr1 ev_vr2) (And.intro (And.intro ev_g0 ev_g1) (And.intro ev_s0 ev_s1))
