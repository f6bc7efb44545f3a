/-! The state of both sides while a circuit is built. Own work. -/
theorem isNet_lt {nc : Nat} {a : Int32} (h : isNet nc a) (hn : nc < 2 ^ 31) : a.toNatClampNeg < nc ∧ a = nI a.toNatClampNeg := by
  have e : ∀ m : Nat, m < 2 ^ 31 → (nI m).toInt = m := fun m hm => Int32.toInt_ofNat_of_lt hm
  obtain ⟨h1, h2⟩ := h
  rw [Int32.lt_iff_toInt_lt] at h1
  rw [Int32.le_iff_toInt_le, e nc hn] at h2
  have h1 : ¬ a.toInt < 0 := h1
  obtain ⟨k, hk, e2⟩ : ∃ k : Nat, k < nc ∧ a = nI k := ⟨a.toInt.toNat, by omega, by
    apply Int32.toInt_inj.mp
    rw [e _ (by omega)]
    omega⟩
  subst e2
  rw [nI_clamp (by omega)]
  exact ⟨hk, rfl⟩
/-- how long the rows of ints, of flags, of longs are -/
def ilN (k : Nat) : Nat := (([(2, 48), (3, 48), (4, 48), (5, 48), (7, 40), (8, 40), (9, 6), (10, 4), (11, 3), (12, 48), (14, 8), (15, 8), (16, 8), (17, 8), (18, 8), (19, 8), (22, 48), (23, 48), (24, 48), (25, 192), (26, 4), (27, 8), (29, 48), (31, 196), (32, 196), (33, 196), (35, 48), (37, 48), (38, 48), (39, 48), (42, 48), (44, 48), (46, 40), (47, 40), (48, 40), (49, 40), (50, 40), (51, 40), (52, 40), (53, 40), (54, 40), (55, 40), (56, 48), (57, 48), (58, 48), (59, 48), (60, 4), (61, 8), (62, 8), (63, 8), (66, 48), (67, 48), (68, 48), (69, 48), (71, 8), (72, 4), (73, 196), (74, 196), (76, 196), (79, 2304), (80, 2304), (81, 48), (82, 2304), (83, 48), (85, 48), (86, 8)] : List (Nat × Nat)).lookup k).getD 0
def zlN (k : Nat) : Nat := (([(21, 48), (28, 48), (43, 48), (64, 48), (65, 48), (70, 48), (84, 48)] : List (Nat × Nat)).lookup k).getD 0
def llN (k : Nat) : Nat := (([(34, 196), (41, 196), (75, 196), (77, 196), (78, 196)] : List (Nat × Nat)).lookup k).getD 0
def rI (e : cx_E) : Nat → Int32 := match e with
  | .inl (_, _, .inl f) => f
  | _ => fun _ => 0
def rL (e : cx_E) : Nat → Int64 := match e with
  | .inl (_, _, .inr f) => f
  | _ => fun _ => 0
def rowW (w : cx_W) (k : Nat) : Nat → Int32 := rI (w k)
/-- the rows have their shapes -/
def Shp (w : cx_W) : Prop := (∀ k, 0 < ilN k → ∃ f, w k = ai (ilN k) f) ∧ (∀ k, 0 < zlN k → ∃ f, w k = az (zlN k) f) ∧ ∀ k, 0 < llN k → ∃ f, w k = al (llN k) f
theorem Shp.i {w : cx_W} (h : Shp w) (k : Nat) {N : Nat} (e : ilN k = N) (p : 0 < N) : w k = ai N (rowW w k) := by
  subst e
  unfold rowW
  obtain ⟨f, hf⟩ := h.1 k p
  rw [hf]
  rfl
theorem Shp.z {w : cx_W} (h : Shp w) (k : Nat) {N : Nat} (e : zlN k = N) (p : 0 < N) : w k = az N (rowW w k) := by
  subst e
  unfold rowW
  obtain ⟨f, hf⟩ := h.2.1 k p
  rw [hf]
  rfl
theorem Shp.l {w : cx_W} (h : Shp w) (k : Nat) {N : Nat} (e : llN k = N) (p : 0 < N) : w k = al N (rL (w k)) := by
  subst e
  obtain ⟨f, hf⟩ := h.2.2 k p
  rw [hf]
  rfl
/-- a row of some shape is there -/
def okR (w : cx_W) (k : Nat) : Prop := (0 < ilN k → ∃ f, w k = ai (ilN k) f) ∧ (0 < zlN k → ∃ f, w k = az (zlN k) f) ∧ (0 < llN k → ∃ f, w k = al (llN k) f)
theorem Shp.upd {w w2 : cx_W} (h : Shp w) (cs : List Nat) (hf : ∀ k, ¬ k ∈ cs → w2 k = w k) (hc : ∀ k, k ∈ cs → okR w2 k) : Shp w2 := by
  refine ⟨fun k p => ?_, fun k p => ?_, fun k p => ?_⟩
  · by_cases m : k ∈ cs
    · exact (hc k m).1 p
    · rw [hf k m]; exact h.1 k p
  · by_cases m : k ∈ cs
    · exact (hc k m).2.1 p
    · rw [hf k m]; exact h.2.1 k p
  · by_cases m : k ∈ cs
    · exact (hc k m).2.2 p
    · rw [hf k m]; exact h.2.2 k p
theorem okR_i {w : cx_W} {k N : Nat} {f : Nat → Int32} (h : w k = ai N f) (e : ilN k = N) (z : zlN k = 0) (l : llN k = 0) : okR w k := ⟨fun _ => ⟨f, by rw [e]; exact h⟩, fun p => by omega, fun p => by omega⟩
theorem okR_z {w : cx_W} {k N : Nat} {f : Nat → Int32} (h : w k = az N f) (e : ilN k = 0) (z : zlN k = N) (l : llN k = 0) : okR w k := ⟨fun p => by omega, fun _ => ⟨f, by rw [z]; exact h⟩, fun p => by omega⟩
theorem okR_l {w : cx_W} {k N : Nat} {f : Nat → Int64} (h : w k = al N f) (e : ilN k = 0) (z : zlN k = 0) (l : llN k = N) : okR w k := ⟨fun p => by omega, fun p => by omega, fun _ => ⟨f, by rw [l]; exact h⟩⟩
theorem okR_o {w : cx_W} {k : Nat} (e : ilN k = 0) (z : zlN k = 0) (l : llN k = 0) : okR w k := ⟨fun p => by omega, fun p => by omega, fun p => by omega⟩
/-- the objects. s: 0 mapped, 1 nodes, 2 nets, 3 inputs, 4 latches, 5 outputs, 6 cells, 7 first bits, 8 present bits -/
def Obj (w : cx_W) (s : Nat → Nat) (X : Nat → Int32) : Prop :=
  w 0 = oC (nI (s 0)) ∧ w 1 = oGr (nI (s 1)) ∧ w 6 = oCi (nI (s 2)) (nI (s 3)) (nI (s 4)) (nI (s 5)) (nI (s 7)) (nI (s 8)) ∧ w 13 = oLi (nI (s 6)) ∧ w 20 = oCo (X 0) ∧ w 30 = oCn (X 1) (X 2) ∧ w 36 = oRe (X 3) (X 4) ∧ w 40 = oMa ∧
  w 45 = oM (nI (s 2)) (nI (s 3)) (nI (s 4)) (nI (s 1)) (nI (s 5)) (nI (s 6)) (nI (s 0)) (X 7) (X 8) (X 9)
def grG (R : Nat → Nat → Int32) (s : Nat → Nat) : Gr := (s 1, R 2, R 3, R 4)
def grH (R : Nat → Nat → Int32) (s : Nat → Nat) : Gr := (s 1, R 56, R 57, R 58)
/-- a net's value, its node's -/
def nv (R : Nat → Nat → Int32) (v : Nat → Bool) (i : Nat) : Bool := v (R 7 i).toNatClampNeg
def FnP (R : Nat → Nat → Int32) (s : Nat → Nat) (i : Nat) : Prop := ∃ a t : Nat, a < i ∧ R 51 i = nI a ∧ t < 256 ∧ R 54 i = nI t ∧
  ((R 52 i = -1 ∧ R 53 i = -1 ∧ ∀ v, Vl 2 3 (grG R s) v → nv R v i = t.testBit (nv R v a).toNat) ∨
   ∃ b : Nat, b < i ∧ R 52 i = nI b ∧ ((R 53 i = -1 ∧ ∀ v, Vl 2 3 (grG R s) v → nv R v i = t.testBit ((nv R v a).toNat + 2 * (nv R v b).toNat)) ∨
     ∃ c : Nat, c < i ∧ R 53 i = nI c ∧ ∀ v, Vl 2 3 (grG R s) v → nv R v i = t.testBit ((nv R v a).toNat + 2 * (nv R v b).toNat + 4 * (nv R v c).toNat)))
/-- an input's net, a latch's net -/
def InP (R : Nat → Nat → Int32) (i : Nat) : Prop := R 46 i = 0 ∧ R 8 i = -1 ∧ R 48 i = 0 ∧ R 49 i = 0 ∧ R 2 (R 7 i).toNatClampNeg = 0 ∧ R 59 (R 7 i).toNatClampNeg = nI i ∧ R 5 (R 7 i).toNatClampNeg = nI (cI (R 46) i)
def LaP (R : Nat → Nat → Int32) (s : Nat → Nat) (i : Nat) : Prop := R 46 i = 1 ∧ (∃ l : Nat, l < s 4 ∧ R 8 i = nI l ∧ R 9 l = R 50 i ∧ R 48 i = nI (s 7 / 2 ^ l % 2) ∧ R 49 i = nI (s 8 / 2 ^ l % 2) ∧ R 5 (R 7 i).toNatClampNeg = nI l) ∧ R 2 (R 7 i).toNatClampNeg = 1 ∧ R 59 (R 7 i).toNatClampNeg = nI i
def NetP (R : Nat → Nat → Int32) (s : Nat → Nat) (i : Nat) : Prop := R 7 i = R 47 i ∧ isN (s 1) (R 7 i) ∧ (InP R i ∨ LaP R s i ∨ (R 46 i = 2 ∧ R 8 i = -1 ∧ R 48 i = 0 ∧ R 49 i = 0 ∧ FnP R s i))
def CellP (R : Nat → Nat → Int32) (c : Nat) : Prop := R 61 c = R 14 c ∧ R 62 c = R 15 c ∧ R 63 c = R 16 c ∧ (∃ q : Nat, q ∈ pats ∧ R 14 c = nI q ∧ R 17 c = nI (pinsP q) ∧ R 18 c = nI (nandsP q) ∧ R 19 c = nI (tabP q (2 ^ pinsP q))) ∧ (∃ a : Nat, 1 ≤ a ∧ a ≤ 1000 ∧ R 15 c = nI a) ∧ ∃ d : Nat, d ≤ 1000 ∧ R 16 c = nI d
def NumP (R : Nat → Nat → Int32) (s : Nat → Nat) : Prop := s 1 ≤ 48 ∧ s 2 ≤ 40 ∧ s 3 ≤ 6 ∧ s 4 ≤ 6 ∧ s 5 ≤ 4 ∧ s 6 ≤ 8 ∧ s 7 < 2 ^ s 4 ∧ s 8 < 2 ^ s 4 ∧ s 3 = cI (R 46) (s 2)
def GrP (R : Nat → Nat → Int32) (s : Nat → Nat) : Prop := KR (grG R s) (grH R s) ∧ WFG 2 3 (grG R s) ∧ NX 3 (grG R s)
/-- every leaf has its net -/
def LfP (R : Nat → Nat → Int32) (s : Nat → Nat) : Prop := ∀ m, m < s 1 → (R 2 m = 0 ∨ R 2 m = 1) → ∃ i : Nat, i < s 2 ∧ R 59 m = nI i ∧ R 7 i = nI m ∧ R 46 i = R 2 m
def LtP (R : Nat → Nat → Int32) (s : Nat → Nat) : Prop := ∀ l, l < s 4 → (∃ i : Nat, i < s 2 ∧ R 46 i = 1 ∧ R 8 i = nI l) ∧ (R 9 l = -1 ∨ ∃ j : Nat, j < s 2 ∧ R 9 l = nI j)
def LuP (R : Nat → Nat → Int32) (s : Nat → Nat) : Prop := ∀ i j, i < s 2 → j < s 2 → R 46 i = 1 → R 46 j = 1 → R 8 i = R 8 j → i = j
def OuP (R : Nat → Nat → Int32) (s : Nat → Nat) : Prop := ∀ o, o < s 5 → R 60 o = R 10 o ∧ ∃ j : Nat, j < s 2 ∧ R 10 o = nI j
/-- what both sides agree on while a circuit is built -/
def Bd (R : Nat → Nat → Int32) (s : Nat → Nat) : Prop := NumP R s ∧ GrP R s ∧ (∀ i, i < s 2 → NetP R s i) ∧ LfP R s ∧ LtP R s ∧ LuP R s ∧ OuP R s ∧ ∀ c, c < s 6 → CellP R c
theorem cI_congr {f g : Nat → Int32} {k : Nat} (h : ∀ j, j < k → f j = g j) : cI f k = cI g k := by
  induction k with
  | zero => rfl
  | succ k ih =>
    rw [cI, cI, ih (fun j hj => h j (by omega)), h k (by omega)]
/-- more nodes and nets, the old ones as they were, and the clocking begun anew -/
def Ext (R R2 : Nat → Nat → Int32) (s s2 : Nat → Nat) : Prop :=
  (s 1 ≤ s2 1 ∧ s 2 ≤ s2 2 ∧ s 4 ≤ s2 4 ∧ s2 8 = s2 7 ∧ ∀ l, l < s 4 → s2 7 / 2 ^ l % 2 = s 7 / 2 ^ l % 2) ∧
  (∀ m, m < s 1 → R2 2 m = R 2 m ∧ R2 3 m = R 3 m ∧ R2 4 m = R 4 m ∧ R2 5 m = R 5 m ∧ R2 59 m = R 59 m) ∧
  (∀ i, i < s 2 → R2 7 i = R 7 i ∧ R2 8 i = R 8 i ∧ R2 46 i = R 46 i ∧ R2 47 i = R 47 i ∧ R2 48 i = R 48 i ∧ R2 49 i = R2 48 i ∧ R2 50 i = R 50 i ∧ R2 51 i = R 51 i ∧ R2 52 i = R 52 i ∧ R2 53 i = R 53 i ∧ R2 54 i = R 54 i) ∧ ∀ l, l < s 4 → R2 9 l = R 9 l
theorem Ext.vl {R R2 : Nat → Nat → Int32} {s s2 : Nat → Nat} (h : Ext R R2 s s2) {v : Nat → Bool} (hv : Vl 2 3 (grG R2 s2) v) : Vl 2 3 (grG R s) v :=
  Vl.low (G := grG R s) (H := grG R2 s2) h.1.1 (fun j hj => ⟨(h.2.1 j hj).1, (h.2.1 j hj).2.1, (h.2.1 j hj).2.2.1⟩) hv
theorem Ext.net {R R2 : Nat → Nat → Int32} {s s2 : Nat → Nat} (h : Ext R R2 s s2) (h48 : s 1 ≤ 48) {i : Nat} (hi : i < s 2) (hN : NetP R s i) : NetP R2 s2 i := by
  have hvl := fun v => h.vl (v := v)
  obtain ⟨⟨a1, a2, a3, a4, a5⟩, b, c, d⟩ := h
  have c0 := c
  obtain ⟨c7, c8, c46, c47, c48, c49, c50, c51, c52, c53, c54⟩ := c i hi
  obtain ⟨n1, n2, n3⟩ := hN
  have hm := (isN.clamp n2 h48).1
  obtain ⟨b2, b3, b4, b5, b59⟩ := b _ hm
  have hcI : cI (R2 46) i = cI (R 46) i := cI_congr fun j hj => (c0 j (by omega)).2.2.1
  refine ⟨by rw [c7, c47]; exact n1, by rw [c7]; exact n2.mono a1, ?_⟩
  rcases n3 with ⟨p1, p2, p3, p4, p5, p6, p7⟩ | ⟨p1, ⟨l, l1, l2, l3, l4, l5, l6⟩, p2, p3⟩ | ⟨p1, p2, p3, p4, p5⟩
  · exact .inl ⟨by rw [c46]; exact p1, by rw [c8]; exact p2, by rw [c48]; exact p3, by rw [c49, c48]; exact p3, by rw [c7, b2]; exact p5, by rw [c7, b59]; exact p6, by rw [c7, b5, hcI]; exact p7⟩
  · refine .inr (.inl ⟨by rw [c46]; exact p1, ⟨l, by omega, by rw [c8]; exact l2, by rw [d l l1, c50]; exact l3, ?_, ?_, by rw [c7, b5]; exact l6⟩, by rw [c7, b2]; exact p2, by rw [c7, b59]; exact p3⟩)
    · rw [c48, a5 l l1]; exact l4
    · rw [c49, c48, a4, a5 l l1]; exact l4
  · refine .inr (.inr ⟨by rw [c46]; exact p1, by rw [c8]; exact p2, by rw [c48]; exact p3, by rw [c49, c48]; exact p3, ?_⟩)
    have nve : ∀ (v : Nat → Bool) (j : Nat), j < s 2 → nv R2 v j = nv R v j := fun v j hj => by unfold nv; rw [(c0 j hj).1]
    obtain ⟨a, t, y1, y2, y3, y4, y5⟩ := p5
    refine ⟨a, t, y1, by rw [c51]; exact y2, y3, by rw [c54]; exact y4, ?_⟩
    rcases y5 with ⟨z1, z2, z3⟩ | ⟨b_, z1, z2, z3⟩
    · exact .inl ⟨by rw [c52]; exact z1, by rw [c53]; exact z2, fun v hv => by rw [nve v i hi, nve v a (by omega)]; exact z3 v (hvl v hv)⟩
    · refine .inr ⟨b_, z1, by rw [c52]; exact z2, ?_⟩
      rcases z3 with ⟨u1, u2⟩ | ⟨c_, u1, u2, u3⟩
      · exact .inl ⟨by rw [c53]; exact u1, fun v hv => by rw [nve v i hi, nve v a (by omega), nve v b_ (by omega)]; exact u2 v (hvl v hv)⟩
      · exact .inr ⟨c_, u1, by rw [c53]; exact u2, fun v hv => by rw [nve v i hi, nve v a (by omega), nve v b_ (by omega), nve v c_ (by omega)]; exact u3 v (hvl v hv)⟩
