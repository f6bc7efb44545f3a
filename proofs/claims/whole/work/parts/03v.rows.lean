/-! What a program has decided of the rows. Own work. -/
def cx_dec (M : cx_M) (pc : Nat) (i : Instr) : Bool := match i with
  | .tableswitch df lo hi offs => (match decode (cx_b M) pc with
    | .ok (j, _) => decide (j = .tableswitch df lo hi offs)
    | _ => false)
  | i => decide (decode (cx_b M) pc = .ok (i, cx_len i))
theorem cx_dec_t {M : cx_M} {pc : Nat} {df lo hi : Int} {offs : Array Int} (h : cx_dec M pc (.tableswitch df lo hi offs) = true) : ∃ len, decode (cx_b M) pc = .ok (.tableswitch df lo hi offs, len) := by
  have h2 : (match decode (cx_b M) pc with
    | .ok (j, _) => decide (j = .tableswitch df lo hi offs)
    | _ => false) = true := h
  cases hd : decode (cx_b M) pc with
  | ok p =>
    obtain ⟨j, len⟩ := p
    rw [hd] at h2
    exact ⟨len, by rw [of_decide_eq_true h2]⟩
  | error e =>
    rw [hd] at h2
    cases h2
def cx_offs (pc : Nat) (lo hi : Int) (offs : Array Int) : Bool := decide ((hi - lo + 1).toNat ≤ offs.size) && offs.toList.all (fun o => decide (0 ≤ (pc : Int) + o))
theorem cx_offs_e {pc : Nat} {lo hi x : Int} {offs : Array Int} (h : cx_offs pc lo hi offs = true) (h1 : ¬ x < lo) (h2 : ¬ hi < x) : ∃ (o : Int) (t : Nat), offs[(x - lo).toNat]? = some o ∧ (pc : Int) + o = (t : Int) := by
  obtain ⟨h3, h4⟩ := Bool.and_eq_true_iff.mp h
  have h3 := of_decide_eq_true h3
  have h5 : (x - lo).toNat < offs.size := by omega
  have h6 : offs[(x - lo).toNat]? = some offs[(x - lo).toNat] := Array.getElem?_eq_getElem h5
  have h7 := of_decide_eq_true (List.all_eq_true.mp h4 offs[(x - lo).toNat] (by simp))
  exact ⟨offs[(x - lo).toNat], ((pc : Int) + offs[(x - lo).toNat]).toNat, h6, by omega⟩
def cx_arg (M : cx_M) (pc : Nat) (i : Instr) (a b c : Nat) (v : Int32) : Bool := match i with
  | .iconst n => decide (Int32.ofInt n = v)
  | .bipush n => decide ((Int8.ofInt n).toInt32 = v)
  | .sipush n => decide ((Int16.ofInt n).toInt32 = v)
  | .ldc x => decide ((cx_c M, x, v) ∈ cx_kl)
  | .ldc2_w x => decide ((cx_c M, x, v) ∈ cx_ql)
  | .lconst n => decide (Int64.ofNat (n : Nat) = v.toInt64)
  | .iload n => decide (n = a)
  | .lload n => decide (n = a)
  | .aload n => decide (n = a)
  | .iload_n n => decide ((n : Nat) = a)
  | .lload_n n => decide ((n : Nat) = a)
  | .aload_n n => decide ((n : Nat) = a)
  | .istore n => decide (n = a ∧ a < cx_n M)
  | .astore n => decide (n = a ∧ a < cx_n M)
  | .lstore n => decide (n = a ∧ a + 1 < cx_n M)
  | .istore_n n => decide ((n : Nat) = a ∧ a < cx_n M)
  | .astore_n n => decide ((n : Nat) = a ∧ a < cx_n M)
  | .lstore_n n => decide ((n : Nat) = a ∧ a + 1 < cx_n M)
  | .iinc n z => decide (n = a ∧ a < cx_n M ∧ Int32.ofInt z = v)
  | .ifCond _ z => decide ((pc : Int) + z = (a : Int))
  | .if_icmp _ z => decide ((pc : Int) + z = (a : Int))
  | .goto z => decide ((pc : Int) + z = (a : Int))
  | .tableswitch df lo hi offs => decide ((pc : Int) + df = (a : Int) ∧ cx_offs pc lo hi offs = true)
  | .ireturn => decide ((c = 0 ∧ cx_r M = some .int) ∨ (c = 1 ∧ cx_r M = some .boolean))
  | .lreturn => decide (cx_r M = some .long)
  | .return_ => decide (cx_r M = none)
  | .getfield x => decide ((cx_c M, x, a, b, c) ∈ cx_fl)
  | .putfield x => decide ((cx_c M, x, a, b, c) ∈ cx_fl ∧ (4 ≤ c → (cx_y M).name = "<init>"))
  | .newarray t => decide ((t = .int ∧ a = 0) ∨ (t = .long ∧ a = 1) ∨ (t = .boolean ∧ a = 2))
  | .new x => decide ((cx_c M, x, a) ∈ cx_nl)
  | .invokevirtual x => decide ((cx_c M, x, a, b, c) ∈ cx_vl)
  | .invokespecial x => (match c with
    | 0 => decide ((cx_c M, x) ∈ cx_ol)
    | _ => decide ((cx_c M, x, a, b) ∈ cx_pl))
  | .invokestatic x => (match c with
    | 0 => decide ((cx_c M, x, a, b) ∈ cx_sl)
    | 2 => decide ((cx_c M, x) ∈ cx_ma)
    | 3 => decide ((cx_c M, x) ∈ cx_mi)
    | 4 => decide ((cx_c M, x) ∈ cx_ac)
    | _ => false)
  | _ => true
def cx_row (M : cx_M) (r : cx_R) : Bool := cx_dec M r.1 r.2.1 && cx_arg M r.1 r.2.1 r.2.2.1 r.2.2.2.1 r.2.2.2.2.1 r.2.2.2.2.2
/-- what a program decides of a method: its rows; its word among the words -/
def cx_mo (M : cx_M) : Prop := cx_cn (cx_c M) = (cx_y M).cls ∧ ∀ r ∈ cx_t M, cx_row M r = true
def cx_mok (M : cx_M) : Prop := Cond.code (cx_y M) (cx_b M) (cx_n M) (cx_r M) ∈ cx_tb ∧ plainName (cx_y M).cls = true ∧ cx_mo M
