/-! Each row as it is read. Printed by gen.py. -/
set_option maxRecDepth 100000 in
theorem vmLaw_law_0 (f : Nat) (X : cx_X) (d mc ms : Nat) (K : cx_K) (Q : cx_Q) (L : cx_L) (st : List Value) (w : cx_W) (u : cx_U) : cx_vc (f + 1) X mLaw_law d mc ms K Q 0 L st w u = (u.2.1 + 1 ≤ mc ∧ u.2.2 + 8 ≤ ms ∧ u.1 < 1000000 ∧ cx_vc f X mLaw_law d mc ms K Q 3 L (.ref u.1 :: st) (cx_up w u.1 (.inr (0, [.null, .null, .null, .null, .null, .null, .null, .int 0]))) (u.1 + 1, u.2.1 + 1, u.2.2 + 8)) := rfl
set_option maxRecDepth 100000 in
theorem vmLaw_law_3 (f : Nat) (X : cx_X) (d mc ms : Nat) (K : cx_K) (Q : cx_Q) (L : cx_L) (x : Int32) (r : List Value) (w : cx_W) (u : cx_U) : cx_vc (f + 1) X mLaw_law d mc ms K Q 3 L (.int x :: r) w u = (cx_vc f X mLaw_law d mc ms K Q 4 L (.int x :: .int x :: r) w u) := rfl
set_option maxRecDepth 100000 in
theorem vmLaw_law_3r (f : Nat) (X : cx_X) (d mc ms : Nat) (K : cx_K) (Q : cx_Q) (L : cx_L) (x : Nat) (r : List Value) (w : cx_W) (u : cx_U) : cx_vc (f + 1) X mLaw_law d mc ms K Q 3 L (.ref x :: r) w u = (cx_vc f X mLaw_law d mc ms K Q 4 L (.ref x :: .ref x :: r) w u) := rfl
set_option maxRecDepth 100000 in
theorem vmLaw_law_4 (f : Nat) (X : cx_X) (d mc ms : Nat) (K : cx_K) (Q : cx_Q) (L : cx_L) (v0 : Value) (r : List Value) (w : cx_W) (u : cx_U) : cx_vc (f + 1) X mLaw_law d mc ms K Q 4 L (v0 :: r) w u = (cx_cs r ≤ 8 ∧ cx_rr [v0] ∧ cx_CS d mc ms 0 [v0] w u (cx_vr2 f X mLaw_law d mc ms K Q 7 L r)) := rfl
set_option maxRecDepth 100000 in
theorem vmLaw_law_7 (f : Nat) (X : cx_X) (d mc ms : Nat) (K : cx_K) (Q : cx_Q) (L : cx_L) (x : Nat) (r : List Value) (w : cx_W) (u : cx_U) : cx_vc (f + 1) X mLaw_law d mc ms K Q 7 L (.ref x :: r) w u = (cx_vc f X mLaw_law d mc ms K Q 8 (cx_set L 1 (.ref x)) r w u) := rfl
set_option maxRecDepth 100000 in
theorem vmLaw_law_8 (f : Nat) (X : cx_X) (d mc ms : Nat) (K : cx_K) (Q : cx_Q) (L : cx_L) (st : List Value) (w : cx_W) (u : cx_U) : cx_vc (f + 1) X mLaw_law d mc ms K Q 8 L st w u = (u.2.1 + 1 ≤ mc ∧ u.2.2 + 51 ≤ ms ∧ u.1 < 1000000 ∧ cx_vc f X mLaw_law d mc ms K Q 11 L (.ref u.1 :: st) (cx_up w u.1 (.inr (8, [.int 0, .null, .null, .null, .null, .null, .null, .null, .null, .null, .null, .int 0, .int 0, .int 0, .null, .null, .null, .null, .int 0, .null, .int 0, .null, .null, .null, .int 0, .null, .null, .null, .null, .null, .null, .null, .null, .null, .int 0, .null, .null, .null, .null, .null, .null, .null, .null, .null, .int 0, .int 0, .null, .null, .null, .null, .null]))) (u.1 + 1, u.2.1 + 1, u.2.2 + 51)) := rfl
set_option maxRecDepth 100000 in
theorem vmLaw_law_11 (f : Nat) (X : cx_X) (d mc ms : Nat) (K : cx_K) (Q : cx_Q) (L : cx_L) (x : Int32) (r : List Value) (w : cx_W) (u : cx_U) : cx_vc (f + 1) X mLaw_law d mc ms K Q 11 L (.int x :: r) w u = (cx_vc f X mLaw_law d mc ms K Q 12 L (.int x :: .int x :: r) w u) := rfl
set_option maxRecDepth 100000 in
theorem vmLaw_law_11r (f : Nat) (X : cx_X) (d mc ms : Nat) (K : cx_K) (Q : cx_Q) (L : cx_L) (x : Nat) (r : List Value) (w : cx_W) (u : cx_U) : cx_vc (f + 1) X mLaw_law d mc ms K Q 11 L (.ref x :: r) w u = (cx_vc f X mLaw_law d mc ms K Q 12 L (.ref x :: .ref x :: r) w u) := rfl
set_option maxRecDepth 100000 in
theorem vmLaw_law_12 (f : Nat) (X : cx_X) (d mc ms : Nat) (K : cx_K) (Q : cx_Q) (L : cx_L) (v0 : Value) (r : List Value) (w : cx_W) (u : cx_U) : cx_vc (f + 1) X mLaw_law d mc ms K Q 12 L (v0 :: r) w u = (cx_cs r ≤ 8 ∧ cx_rr [v0] ∧ cx_CS d mc ms 140 [v0] w u (cx_vr2 f X mLaw_law d mc ms K Q 15 L r)) := rfl
set_option maxRecDepth 100000 in
theorem vmLaw_law_15 (f : Nat) (X : cx_X) (d mc ms : Nat) (K : cx_K) (Q : cx_Q) (L : cx_L) (x : Nat) (r : List Value) (w : cx_W) (u : cx_U) : cx_vc (f + 1) X mLaw_law d mc ms K Q 15 L (.ref x :: r) w u = (cx_vc f X mLaw_law d mc ms K Q 16 (cx_set L 2 (.ref x)) r w u) := rfl
set_option maxRecDepth 100000 in
theorem vmLaw_law_16 (f : Nat) (X : cx_X) (d mc ms : Nat) (K : cx_K) (Q : cx_Q) (L : cx_L) (st : List Value) (w : cx_W) (u : cx_U) : cx_vc (f + 1) X mLaw_law d mc ms K Q 16 L st w u = (cx_vc f X mLaw_law d mc ms K Q 17 L (.int 0 :: st) w u) := rfl
set_option maxRecDepth 100000 in
theorem vmLaw_law_17 (f : Nat) (X : cx_X) (d mc ms : Nat) (K : cx_K) (Q : cx_Q) (L : cx_L) (x : Int32) (r : List Value) (w : cx_W) (u : cx_U) : cx_vc (f + 1) X mLaw_law d mc ms K Q 17 L (.int x :: r) w u = (K 18 (cx_set L 3 (.int x)) r w u) := rfl
set_option maxRecDepth 100000 in
theorem vmLaw_law_18 (f : Nat) (X : cx_X) (d mc ms : Nat) (K : cx_K) (Q : cx_Q) (l0 l1 l2 : Option Value) (x : Int32) (st : List Value) (w : cx_W) (u : cx_U) : cx_vc (f + 1) X mLaw_law d mc ms K Q 18 [l0, l1, l2, some (.int x)] st w u = (cx_vc f X mLaw_law d mc ms K Q 19 [l0, l1, l2, some (.int x)] (.int x :: st) w u) := rfl
set_option maxRecDepth 100000 in
theorem vmLaw_law_19 (f : Nat) (X : cx_X) (d mc ms : Nat) (K : cx_K) (Q : cx_Q) (l1 l2 l3 : Option Value) (x : Nat) (st : List Value) (w : cx_W) (u : cx_U) : cx_vc (f + 1) X mLaw_law d mc ms K Q 19 [some (.ref x), l1, l2, l3] st w u = (cx_vc f X mLaw_law d mc ms K Q 20 [some (.ref x), l1, l2, l3] (.ref x :: st) w u) := rfl
set_option maxRecDepth 100000 in
theorem vmLaw_law_20 (f : Nat) (X : cx_X) (d mc ms : Nat) (K : cx_K) (Q : cx_Q) (L : cx_L) (q : Nat) (r : List Value) (w : cx_W) (u : cx_U) : cx_vc (f + 1) X mLaw_law d mc ms K Q 20 L (.ref q :: r) w u = ((cx_sa X w u.1 q).isSome = true ∧ cx_vc f X mLaw_law d mc ms K Q 21 L (.int (Int32.ofNat ((cx_sa X w u.1 q).getD (0, fun _ => 0)).1) :: r) w u) := cx_og (cx_sa X w u.1 q) (0, fun _ => 0) fun p => cx_vc f X mLaw_law d mc ms K Q 21 L (.int (Int32.ofNat p.1) :: r) w u
set_option maxRecDepth 100000 in
theorem vmLaw_law_21 (f : Nat) (X : cx_X) (d mc ms : Nat) (K : cx_K) (Q : cx_Q) (L : cx_L) (st : List Value) (w : cx_W) (u : cx_U) : cx_vc (f + 1) X mLaw_law d mc ms K Q 21 L st w u = (cx_vc f X mLaw_law d mc ms K Q 22 L (.int 5 :: st) w u) := rfl
set_option maxRecDepth 100000 in
theorem vmLaw_law_22 (f : Nat) (X : cx_X) (d mc ms : Nat) (K : cx_K) (Q : cx_Q) (L : cx_L) (x y : Int32) (r : List Value) (w : cx_W) (u : cx_U) : cx_vc (f + 1) X mLaw_law d mc ms K Q 22 L (.int y :: .int x :: r) w u = (cx_vc f X mLaw_law d mc ms K Q 23 L (.int (x - y) :: r) w u) := rfl
set_option maxRecDepth 100000 in
theorem vmLaw_law_23 (f : Nat) (X : cx_X) (d mc ms : Nat) (K : cx_K) (Q : cx_Q) (L : cx_L) (x y : Int32) (r : List Value) (w : cx_W) (u : cx_U) : cx_vc (f + 1) X mLaw_law d mc ms K Q 23 L (.int y :: .int x :: r) w u = (cx_cnd .gt x y (cx_vc f X mLaw_law d mc ms K Q 576 L r w u) (cx_vc f X mLaw_law d mc ms K Q 26 L r w u)) := rfl
set_option maxRecDepth 100000 in
theorem vmLaw_law_26 (f : Nat) (X : cx_X) (d mc ms : Nat) (K : cx_K) (Q : cx_Q) (l1 l2 l3 : Option Value) (x : Nat) (st : List Value) (w : cx_W) (u : cx_U) : cx_vc (f + 1) X mLaw_law d mc ms K Q 26 [some (.ref x), l1, l2, l3] st w u = (cx_vc f X mLaw_law d mc ms K Q 27 [some (.ref x), l1, l2, l3] (.ref x :: st) w u) := rfl
set_option maxRecDepth 100000 in
theorem vmLaw_law_27 (f : Nat) (X : cx_X) (d mc ms : Nat) (K : cx_K) (Q : cx_Q) (l0 l1 l2 : Option Value) (x : Int32) (st : List Value) (w : cx_W) (u : cx_U) : cx_vc (f + 1) X mLaw_law d mc ms K Q 27 [l0, l1, l2, some (.int x)] st w u = (cx_vc f X mLaw_law d mc ms K Q 28 [l0, l1, l2, some (.int x)] (.int x :: st) w u) := rfl
set_option maxRecDepth 100000 in
theorem vmLaw_law_28 (f : Nat) (X : cx_X) (d mc ms : Nat) (K : cx_K) (Q : cx_Q) (L : cx_L) (q : Nat) (j : Int32) (r : List Value) (w : cx_W) (u : cx_U) : cx_vc (f + 1) X mLaw_law d mc ms K Q 28 L (.int j :: .ref q :: r) w u = ((cx_sa X w u.1 q).isSome = true ∧ vp_in j ((cx_sa X w u.1 q).getD (0, fun _ => 0)).1 ∧ cx_vc f X mLaw_law d mc ms K Q 29 L (.int (((cx_sa X w u.1 q).getD (0, fun _ => 0)).2 j.toNatClampNeg) :: r) w u) := cx_og (cx_sa X w u.1 q) (0, fun _ => 0) fun p => vp_in j p.1 ∧ cx_vc f X mLaw_law d mc ms K Q 29 L (.int (p.2 j.toNatClampNeg) :: r) w u
set_option maxRecDepth 100000 in
theorem vmLaw_law_29 (f : Nat) (X : cx_X) (d mc ms : Nat) (K : cx_K) (Q : cx_Q) (L : cx_L) (st : List Value) (w : cx_W) (u : cx_U) : cx_vc (f + 1) X mLaw_law d mc ms K Q 29 L st w u = (cx_vc f X mLaw_law d mc ms K Q 31 L (.int 31 :: st) w u) := rfl
set_option maxRecDepth 100000 in
theorem vmLaw_law_31 (f : Nat) (X : cx_X) (d mc ms : Nat) (K : cx_K) (Q : cx_Q) (L : cx_L) (x y : Int32) (r : List Value) (w : cx_W) (u : cx_U) : cx_vc (f + 1) X mLaw_law d mc ms K Q 31 L (.int y :: .int x :: r) w u = (cx_vc f X mLaw_law d mc ms K Q 32 L (.int (x &&& y) :: r) w u) := rfl
set_option maxRecDepth 100000 in
theorem vmLaw_law_32 (f : Nat) (X : cx_X) (d mc ms : Nat) (K : cx_K) (Q : cx_Q) (L : cx_L) (x : Int32) (r : List Value) (w : cx_W) (u : cx_U) : cx_vc (f + 1) X mLaw_law d mc ms K Q 32 L (.int x :: r) w u = ((x.toInt < 0 ∨ 18 < x.toInt → cx_vc f X mLaw_law d mc ms K Q 570 L r w u) ∧ ∀ (o : Int) (t : Nat), ¬ x.toInt < 0 → ¬ 18 < x.toInt → (#[92, 105, 128, 181, 214, 237, 280, 293, 316, 349, 362, 375, 398, 411, 424, 447, 481, 504, 527] : Array Int)[(x.toInt - 0).toNat]? = some o → ((32 : Nat) : Int) + o = (t : Int) → (if (cx_h mLaw_law).elem t = true then K t L r w u else cx_vc f X mLaw_law d mc ms K Q t L r w u)) := rfl
set_option maxRecDepth 100000 in
theorem vmLaw_law_124 (f : Nat) (X : cx_X) (d mc ms : Nat) (K : cx_K) (Q : cx_Q) (l0 l2 l3 : Option Value) (x : Nat) (st : List Value) (w : cx_W) (u : cx_U) : cx_vc (f + 1) X mLaw_law d mc ms K Q 124 [l0, some (.ref x), l2, l3] st w u = (cx_vc f X mLaw_law d mc ms K Q 125 [l0, some (.ref x), l2, l3] (.ref x :: st) w u) := rfl
set_option maxRecDepth 100000 in
theorem vmLaw_law_125 (f : Nat) (X : cx_X) (d mc ms : Nat) (K : cx_K) (Q : cx_Q) (L : cx_L) (v0 : Value) (r : List Value) (w : cx_W) (u : cx_U) : cx_vc (f + 1) X mLaw_law d mc ms K Q 125 L (v0 :: r) w u = (cx_cs r ≤ 8 ∧ cx_rc [v0] w u.1 0 ∧ cx_CS d mc ms 1 [v0] w u (cx_vr2 f X mLaw_law d mc ms K Q 128 L r)) := rfl
set_option maxRecDepth 100000 in
theorem vmLaw_law_128 (f : Nat) (X : cx_X) (d mc ms : Nat) (K : cx_K) (Q : cx_Q) (l0 l1 l3 : Option Value) (x : Nat) (st : List Value) (w : cx_W) (u : cx_U) : cx_vc (f + 1) X mLaw_law d mc ms K Q 128 [l0, l1, some (.ref x), l3] st w u = (cx_vc f X mLaw_law d mc ms K Q 129 [l0, l1, some (.ref x), l3] (.ref x :: st) w u) := rfl
set_option maxRecDepth 100000 in
theorem vmLaw_law_129 (f : Nat) (X : cx_X) (d mc ms : Nat) (K : cx_K) (Q : cx_Q) (L : cx_L) (v0 : Value) (r : List Value) (w : cx_W) (u : cx_U) : cx_vc (f + 1) X mLaw_law d mc ms K Q 129 L (v0 :: r) w u = (cx_cs r ≤ 8 ∧ cx_rc [v0] w u.1 8 ∧ cx_CS d mc ms 153 [v0] w u (cx_vr2 f X mLaw_law d mc ms K Q 132 L r)) := rfl
set_option maxRecDepth 100000 in
theorem vmLaw_law_132 (f : Nat) (X : cx_X) (d mc ms : Nat) (K : cx_K) (Q : cx_Q) (L : cx_L) (x y : Int32) (r : List Value) (w : cx_W) (u : cx_U) : cx_vc (f + 1) X mLaw_law d mc ms K Q 132 L (.int y :: .int x :: r) w u = (cx_cnd .eq x y (cx_vc f X mLaw_law d mc ms K Q 570 L r w u) (cx_vc f X mLaw_law d mc ms K Q 135 L r w u)) := rfl
set_option maxRecDepth 100000 in
theorem vmLaw_law_135 (f : Nat) (X : cx_X) (d mc ms : Nat) (K : cx_K) (Q : cx_Q) (L : cx_L) (st : List Value) (w : cx_W) (u : cx_U) : cx_vc (f + 1) X mLaw_law d mc ms K Q 135 L st w u = (cx_vc f X mLaw_law d mc ms K Q 136 L (.int 0 :: st) w u) := rfl
set_option maxRecDepth 100000 in
theorem vmLaw_law_136 (f : Nat) (X : cx_X) (d mc ms : Nat) (K : cx_K) (Q : cx_Q) (L : cx_L) (x : Int32) (w : cx_W) (u : cx_U) : cx_vc (f + 1) X mLaw_law d mc ms K Q 136 L [.int x] w u = ((x = 0 ∨ x = 1) ∧ u.2.1 = mc ∧ u.2.2 ≤ ms ∧ Q (some (.int x)) w u) := cx_ri1 _ _
set_option maxRecDepth 100000 in
theorem vmLaw_law_137 (f : Nat) (X : cx_X) (d mc ms : Nat) (K : cx_K) (Q : cx_Q) (l0 l2 l3 : Option Value) (x : Nat) (st : List Value) (w : cx_W) (u : cx_U) : cx_vc (f + 1) X mLaw_law d mc ms K Q 137 [l0, some (.ref x), l2, l3] st w u = (cx_vc f X mLaw_law d mc ms K Q 138 [l0, some (.ref x), l2, l3] (.ref x :: st) w u) := rfl
set_option maxRecDepth 100000 in
theorem vmLaw_law_138 (f : Nat) (X : cx_X) (d mc ms : Nat) (K : cx_K) (Q : cx_Q) (l1 l2 l3 : Option Value) (x : Nat) (st : List Value) (w : cx_W) (u : cx_U) : cx_vc (f + 1) X mLaw_law d mc ms K Q 138 [some (.ref x), l1, l2, l3] st w u = (cx_vc f X mLaw_law d mc ms K Q 139 [some (.ref x), l1, l2, l3] (.ref x :: st) w u) := rfl
set_option maxRecDepth 100000 in
theorem vmLaw_law_139 (f : Nat) (X : cx_X) (d mc ms : Nat) (K : cx_K) (Q : cx_Q) (l0 l1 l2 : Option Value) (x : Int32) (st : List Value) (w : cx_W) (u : cx_U) : cx_vc (f + 1) X mLaw_law d mc ms K Q 139 [l0, l1, l2, some (.int x)] st w u = (cx_vc f X mLaw_law d mc ms K Q 140 [l0, l1, l2, some (.int x)] (.int x :: st) w u) := rfl
set_option maxRecDepth 100000 in
theorem vmLaw_law_140 (f : Nat) (X : cx_X) (d mc ms : Nat) (K : cx_K) (Q : cx_Q) (L : cx_L) (st : List Value) (w : cx_W) (u : cx_U) : cx_vc (f + 1) X mLaw_law d mc ms K Q 140 L st w u = (cx_vc f X mLaw_law d mc ms K Q 141 L (.int 1 :: st) w u) := rfl
set_option maxRecDepth 100000 in
theorem vmLaw_law_141 (f : Nat) (X : cx_X) (d mc ms : Nat) (K : cx_K) (Q : cx_Q) (L : cx_L) (x y : Int32) (r : List Value) (w : cx_W) (u : cx_U) : cx_vc (f + 1) X mLaw_law d mc ms K Q 141 L (.int y :: .int x :: r) w u = (cx_vc f X mLaw_law d mc ms K Q 142 L (.int (x + y) :: r) w u) := rfl
set_option maxRecDepth 100000 in
theorem vmLaw_law_142 (f : Nat) (X : cx_X) (d mc ms : Nat) (K : cx_K) (Q : cx_Q) (L : cx_L) (q : Nat) (j : Int32) (r : List Value) (w : cx_W) (u : cx_U) : cx_vc (f + 1) X mLaw_law d mc ms K Q 142 L (.int j :: .ref q :: r) w u = ((cx_sa X w u.1 q).isSome = true ∧ vp_in j ((cx_sa X w u.1 q).getD (0, fun _ => 0)).1 ∧ cx_vc f X mLaw_law d mc ms K Q 143 L (.int (((cx_sa X w u.1 q).getD (0, fun _ => 0)).2 j.toNatClampNeg) :: r) w u) := cx_og (cx_sa X w u.1 q) (0, fun _ => 0) fun p => vp_in j p.1 ∧ cx_vc f X mLaw_law d mc ms K Q 143 L (.int (p.2 j.toNatClampNeg) :: r) w u
set_option maxRecDepth 100000 in
theorem vmLaw_law_143 (f : Nat) (X : cx_X) (d mc ms : Nat) (K : cx_K) (Q : cx_Q) (L : cx_L) (v0 v1 : Value) (r : List Value) (w : cx_W) (u : cx_U) : cx_vc (f + 1) X mLaw_law d mc ms K Q 143 L (v1 :: v0 :: r) w u = (cx_cs r ≤ 8 ∧ cx_rc [v0, v1] w u.1 0 ∧ cx_CS d mc ms 2 [v0, v1] w u (cx_vr2 f X mLaw_law d mc ms K Q 146 L r)) := rfl
set_option maxRecDepth 100000 in
theorem vmLaw_law_146 (f : Nat) (X : cx_X) (d mc ms : Nat) (K : cx_K) (Q : cx_Q) (l0 l1 l3 : Option Value) (x : Nat) (st : List Value) (w : cx_W) (u : cx_U) : cx_vc (f + 1) X mLaw_law d mc ms K Q 146 [l0, l1, some (.ref x), l3] st w u = (cx_vc f X mLaw_law d mc ms K Q 147 [l0, l1, some (.ref x), l3] (.ref x :: st) w u) := rfl
set_option maxRecDepth 100000 in
theorem vmLaw_law_147 (f : Nat) (X : cx_X) (d mc ms : Nat) (K : cx_K) (Q : cx_Q) (l1 l2 l3 : Option Value) (x : Nat) (st : List Value) (w : cx_W) (u : cx_U) : cx_vc (f + 1) X mLaw_law d mc ms K Q 147 [some (.ref x), l1, l2, l3] st w u = (cx_vc f X mLaw_law d mc ms K Q 148 [some (.ref x), l1, l2, l3] (.ref x :: st) w u) := rfl
set_option maxRecDepth 100000 in
theorem vmLaw_law_148 (f : Nat) (X : cx_X) (d mc ms : Nat) (K : cx_K) (Q : cx_Q) (l0 l1 l2 : Option Value) (x : Int32) (st : List Value) (w : cx_W) (u : cx_U) : cx_vc (f + 1) X mLaw_law d mc ms K Q 148 [l0, l1, l2, some (.int x)] st w u = (cx_vc f X mLaw_law d mc ms K Q 149 [l0, l1, l2, some (.int x)] (.int x :: st) w u) := rfl
set_option maxRecDepth 100000 in
theorem vmLaw_law_149 (f : Nat) (X : cx_X) (d mc ms : Nat) (K : cx_K) (Q : cx_Q) (L : cx_L) (st : List Value) (w : cx_W) (u : cx_U) : cx_vc (f + 1) X mLaw_law d mc ms K Q 149 L st w u = (cx_vc f X mLaw_law d mc ms K Q 150 L (.int 1 :: st) w u) := rfl
set_option maxRecDepth 100000 in
theorem vmLaw_law_150 (f : Nat) (X : cx_X) (d mc ms : Nat) (K : cx_K) (Q : cx_Q) (L : cx_L) (x y : Int32) (r : List Value) (w : cx_W) (u : cx_U) : cx_vc (f + 1) X mLaw_law d mc ms K Q 150 L (.int y :: .int x :: r) w u = (cx_vc f X mLaw_law d mc ms K Q 151 L (.int (x + y) :: r) w u) := rfl
set_option maxRecDepth 100000 in
theorem vmLaw_law_151 (f : Nat) (X : cx_X) (d mc ms : Nat) (K : cx_K) (Q : cx_Q) (L : cx_L) (q : Nat) (j : Int32) (r : List Value) (w : cx_W) (u : cx_U) : cx_vc (f + 1) X mLaw_law d mc ms K Q 151 L (.int j :: .ref q :: r) w u = ((cx_sa X w u.1 q).isSome = true ∧ vp_in j ((cx_sa X w u.1 q).getD (0, fun _ => 0)).1 ∧ cx_vc f X mLaw_law d mc ms K Q 152 L (.int (((cx_sa X w u.1 q).getD (0, fun _ => 0)).2 j.toNatClampNeg) :: r) w u) := cx_og (cx_sa X w u.1 q) (0, fun _ => 0) fun p => vp_in j p.1 ∧ cx_vc f X mLaw_law d mc ms K Q 152 L (.int (p.2 j.toNatClampNeg) :: r) w u
set_option maxRecDepth 100000 in
theorem vmLaw_law_152 (f : Nat) (X : cx_X) (d mc ms : Nat) (K : cx_K) (Q : cx_Q) (L : cx_L) (v0 v1 : Value) (r : List Value) (w : cx_W) (u : cx_U) : cx_vc (f + 1) X mLaw_law d mc ms K Q 152 L (v1 :: v0 :: r) w u = (cx_cs r ≤ 8 ∧ cx_rc [v0, v1] w u.1 8 ∧ cx_CS d mc ms 154 [v0, v1] w u (cx_vr2 f X mLaw_law d mc ms K Q 155 L r)) := rfl
set_option maxRecDepth 100000 in
theorem vmLaw_law_155 (f : Nat) (X : cx_X) (d mc ms : Nat) (K : cx_K) (Q : cx_Q) (L : cx_L) (x y : Int32) (r : List Value) (w : cx_W) (u : cx_U) : cx_vc (f + 1) X mLaw_law d mc ms K Q 155 L (.int y :: .int x :: r) w u = (cx_cnd .eq x y (cx_vc f X mLaw_law d mc ms K Q 570 L r w u) (cx_vc f X mLaw_law d mc ms K Q 158 L r w u)) := rfl
set_option maxRecDepth 100000 in
theorem vmLaw_law_158 (f : Nat) (X : cx_X) (d mc ms : Nat) (K : cx_K) (Q : cx_Q) (L : cx_L) (st : List Value) (w : cx_W) (u : cx_U) : cx_vc (f + 1) X mLaw_law d mc ms K Q 158 L st w u = (cx_vc f X mLaw_law d mc ms K Q 159 L (.int 0 :: st) w u) := rfl
set_option maxRecDepth 100000 in
theorem vmLaw_law_159 (f : Nat) (X : cx_X) (d mc ms : Nat) (K : cx_K) (Q : cx_Q) (L : cx_L) (x : Int32) (w : cx_W) (u : cx_U) : cx_vc (f + 1) X mLaw_law d mc ms K Q 159 L [.int x] w u = ((x = 0 ∨ x = 1) ∧ u.2.1 = mc ∧ u.2.2 ≤ ms ∧ Q (some (.int x)) w u) := cx_ri1 _ _
set_option maxRecDepth 100000 in
theorem vmLaw_law_160 (f : Nat) (X : cx_X) (d mc ms : Nat) (K : cx_K) (Q : cx_Q) (l0 l2 l3 : Option Value) (x : Nat) (st : List Value) (w : cx_W) (u : cx_U) : cx_vc (f + 1) X mLaw_law d mc ms K Q 160 [l0, some (.ref x), l2, l3] st w u = (cx_vc f X mLaw_law d mc ms K Q 161 [l0, some (.ref x), l2, l3] (.ref x :: st) w u) := rfl
set_option maxRecDepth 100000 in
theorem vmLaw_law_161 (f : Nat) (X : cx_X) (d mc ms : Nat) (K : cx_K) (Q : cx_Q) (l1 l2 l3 : Option Value) (x : Nat) (st : List Value) (w : cx_W) (u : cx_U) : cx_vc (f + 1) X mLaw_law d mc ms K Q 161 [some (.ref x), l1, l2, l3] st w u = (cx_vc f X mLaw_law d mc ms K Q 162 [some (.ref x), l1, l2, l3] (.ref x :: st) w u) := rfl
set_option maxRecDepth 100000 in
theorem vmLaw_law_162 (f : Nat) (X : cx_X) (d mc ms : Nat) (K : cx_K) (Q : cx_Q) (l0 l1 l2 : Option Value) (x : Int32) (st : List Value) (w : cx_W) (u : cx_U) : cx_vc (f + 1) X mLaw_law d mc ms K Q 162 [l0, l1, l2, some (.int x)] st w u = (cx_vc f X mLaw_law d mc ms K Q 163 [l0, l1, l2, some (.int x)] (.int x :: st) w u) := rfl
set_option maxRecDepth 100000 in
theorem vmLaw_law_163 (f : Nat) (X : cx_X) (d mc ms : Nat) (K : cx_K) (Q : cx_Q) (L : cx_L) (st : List Value) (w : cx_W) (u : cx_U) : cx_vc (f + 1) X mLaw_law d mc ms K Q 163 L st w u = (cx_vc f X mLaw_law d mc ms K Q 164 L (.int 1 :: st) w u) := rfl
set_option maxRecDepth 100000 in
theorem vmLaw_law_164 (f : Nat) (X : cx_X) (d mc ms : Nat) (K : cx_K) (Q : cx_Q) (L : cx_L) (x y : Int32) (r : List Value) (w : cx_W) (u : cx_U) : cx_vc (f + 1) X mLaw_law d mc ms K Q 164 L (.int y :: .int x :: r) w u = (cx_vc f X mLaw_law d mc ms K Q 165 L (.int (x + y) :: r) w u) := rfl
set_option maxRecDepth 100000 in
theorem vmLaw_law_165 (f : Nat) (X : cx_X) (d mc ms : Nat) (K : cx_K) (Q : cx_Q) (L : cx_L) (q : Nat) (j : Int32) (r : List Value) (w : cx_W) (u : cx_U) : cx_vc (f + 1) X mLaw_law d mc ms K Q 165 L (.int j :: .ref q :: r) w u = ((cx_sa X w u.1 q).isSome = true ∧ vp_in j ((cx_sa X w u.1 q).getD (0, fun _ => 0)).1 ∧ cx_vc f X mLaw_law d mc ms K Q 166 L (.int (((cx_sa X w u.1 q).getD (0, fun _ => 0)).2 j.toNatClampNeg) :: r) w u) := cx_og (cx_sa X w u.1 q) (0, fun _ => 0) fun p => vp_in j p.1 ∧ cx_vc f X mLaw_law d mc ms K Q 166 L (.int (p.2 j.toNatClampNeg) :: r) w u
set_option maxRecDepth 100000 in
theorem vmLaw_law_166 (f : Nat) (X : cx_X) (d mc ms : Nat) (K : cx_K) (Q : cx_Q) (l1 l2 l3 : Option Value) (x : Nat) (st : List Value) (w : cx_W) (u : cx_U) : cx_vc (f + 1) X mLaw_law d mc ms K Q 166 [some (.ref x), l1, l2, l3] st w u = (cx_vc f X mLaw_law d mc ms K Q 167 [some (.ref x), l1, l2, l3] (.ref x :: st) w u) := rfl
set_option maxRecDepth 100000 in
theorem vmLaw_law_167 (f : Nat) (X : cx_X) (d mc ms : Nat) (K : cx_K) (Q : cx_Q) (l0 l1 l2 : Option Value) (x : Int32) (st : List Value) (w : cx_W) (u : cx_U) : cx_vc (f + 1) X mLaw_law d mc ms K Q 167 [l0, l1, l2, some (.int x)] st w u = (cx_vc f X mLaw_law d mc ms K Q 168 [l0, l1, l2, some (.int x)] (.int x :: st) w u) := rfl
set_option maxRecDepth 100000 in
theorem vmLaw_law_168 (f : Nat) (X : cx_X) (d mc ms : Nat) (K : cx_K) (Q : cx_Q) (L : cx_L) (st : List Value) (w : cx_W) (u : cx_U) : cx_vc (f + 1) X mLaw_law d mc ms K Q 168 L st w u = (cx_vc f X mLaw_law d mc ms K Q 169 L (.int 2 :: st) w u) := rfl
set_option maxRecDepth 100000 in
theorem vmLaw_law_169 (f : Nat) (X : cx_X) (d mc ms : Nat) (K : cx_K) (Q : cx_Q) (L : cx_L) (x y : Int32) (r : List Value) (w : cx_W) (u : cx_U) : cx_vc (f + 1) X mLaw_law d mc ms K Q 169 L (.int y :: .int x :: r) w u = (cx_vc f X mLaw_law d mc ms K Q 170 L (.int (x + y) :: r) w u) := rfl
set_option maxRecDepth 100000 in
theorem vmLaw_law_170 (f : Nat) (X : cx_X) (d mc ms : Nat) (K : cx_K) (Q : cx_Q) (L : cx_L) (q : Nat) (j : Int32) (r : List Value) (w : cx_W) (u : cx_U) : cx_vc (f + 1) X mLaw_law d mc ms K Q 170 L (.int j :: .ref q :: r) w u = ((cx_sa X w u.1 q).isSome = true ∧ vp_in j ((cx_sa X w u.1 q).getD (0, fun _ => 0)).1 ∧ cx_vc f X mLaw_law d mc ms K Q 171 L (.int (((cx_sa X w u.1 q).getD (0, fun _ => 0)).2 j.toNatClampNeg) :: r) w u) := cx_og (cx_sa X w u.1 q) (0, fun _ => 0) fun p => vp_in j p.1 ∧ cx_vc f X mLaw_law d mc ms K Q 171 L (.int (p.2 j.toNatClampNeg) :: r) w u
set_option maxRecDepth 100000 in
theorem vmLaw_law_171 (f : Nat) (X : cx_X) (d mc ms : Nat) (K : cx_K) (Q : cx_Q) (l1 l2 l3 : Option Value) (x : Nat) (st : List Value) (w : cx_W) (u : cx_U) : cx_vc (f + 1) X mLaw_law d mc ms K Q 171 [some (.ref x), l1, l2, l3] st w u = (cx_vc f X mLaw_law d mc ms K Q 172 [some (.ref x), l1, l2, l3] (.ref x :: st) w u) := rfl
set_option maxRecDepth 100000 in
theorem vmLaw_law_172 (f : Nat) (X : cx_X) (d mc ms : Nat) (K : cx_K) (Q : cx_Q) (l0 l1 l2 : Option Value) (x : Int32) (st : List Value) (w : cx_W) (u : cx_U) : cx_vc (f + 1) X mLaw_law d mc ms K Q 172 [l0, l1, l2, some (.int x)] st w u = (cx_vc f X mLaw_law d mc ms K Q 173 [l0, l1, l2, some (.int x)] (.int x :: st) w u) := rfl
set_option maxRecDepth 100000 in
theorem vmLaw_law_173 (f : Nat) (X : cx_X) (d mc ms : Nat) (K : cx_K) (Q : cx_Q) (L : cx_L) (st : List Value) (w : cx_W) (u : cx_U) : cx_vc (f + 1) X mLaw_law d mc ms K Q 173 L st w u = (cx_vc f X mLaw_law d mc ms K Q 174 L (.int 3 :: st) w u) := rfl
set_option maxRecDepth 100000 in
theorem vmLaw_law_174 (f : Nat) (X : cx_X) (d mc ms : Nat) (K : cx_K) (Q : cx_Q) (L : cx_L) (x y : Int32) (r : List Value) (w : cx_W) (u : cx_U) : cx_vc (f + 1) X mLaw_law d mc ms K Q 174 L (.int y :: .int x :: r) w u = (cx_vc f X mLaw_law d mc ms K Q 175 L (.int (x + y) :: r) w u) := rfl
set_option maxRecDepth 100000 in
theorem vmLaw_law_175 (f : Nat) (X : cx_X) (d mc ms : Nat) (K : cx_K) (Q : cx_Q) (L : cx_L) (q : Nat) (j : Int32) (r : List Value) (w : cx_W) (u : cx_U) : cx_vc (f + 1) X mLaw_law d mc ms K Q 175 L (.int j :: .ref q :: r) w u = ((cx_sa X w u.1 q).isSome = true ∧ vp_in j ((cx_sa X w u.1 q).getD (0, fun _ => 0)).1 ∧ cx_vc f X mLaw_law d mc ms K Q 176 L (.int (((cx_sa X w u.1 q).getD (0, fun _ => 0)).2 j.toNatClampNeg) :: r) w u) := cx_og (cx_sa X w u.1 q) (0, fun _ => 0) fun p => vp_in j p.1 ∧ cx_vc f X mLaw_law d mc ms K Q 176 L (.int (p.2 j.toNatClampNeg) :: r) w u
set_option maxRecDepth 100000 in
theorem vmLaw_law_176 (f : Nat) (X : cx_X) (d mc ms : Nat) (K : cx_K) (Q : cx_Q) (l1 l2 l3 : Option Value) (x : Nat) (st : List Value) (w : cx_W) (u : cx_U) : cx_vc (f + 1) X mLaw_law d mc ms K Q 176 [some (.ref x), l1, l2, l3] st w u = (cx_vc f X mLaw_law d mc ms K Q 177 [some (.ref x), l1, l2, l3] (.ref x :: st) w u) := rfl
set_option maxRecDepth 100000 in
theorem vmLaw_law_177 (f : Nat) (X : cx_X) (d mc ms : Nat) (K : cx_K) (Q : cx_Q) (l0 l1 l2 : Option Value) (x : Int32) (st : List Value) (w : cx_W) (u : cx_U) : cx_vc (f + 1) X mLaw_law d mc ms K Q 177 [l0, l1, l2, some (.int x)] st w u = (cx_vc f X mLaw_law d mc ms K Q 178 [l0, l1, l2, some (.int x)] (.int x :: st) w u) := rfl
set_option maxRecDepth 100000 in
theorem vmLaw_law_178 (f : Nat) (X : cx_X) (d mc ms : Nat) (K : cx_K) (Q : cx_Q) (L : cx_L) (st : List Value) (w : cx_W) (u : cx_U) : cx_vc (f + 1) X mLaw_law d mc ms K Q 178 L st w u = (cx_vc f X mLaw_law d mc ms K Q 179 L (.int 4 :: st) w u) := rfl
set_option maxRecDepth 100000 in
theorem vmLaw_law_179 (f : Nat) (X : cx_X) (d mc ms : Nat) (K : cx_K) (Q : cx_Q) (L : cx_L) (x y : Int32) (r : List Value) (w : cx_W) (u : cx_U) : cx_vc (f + 1) X mLaw_law d mc ms K Q 179 L (.int y :: .int x :: r) w u = (cx_vc f X mLaw_law d mc ms K Q 180 L (.int (x + y) :: r) w u) := rfl
set_option maxRecDepth 100000 in
theorem vmLaw_law_180 (f : Nat) (X : cx_X) (d mc ms : Nat) (K : cx_K) (Q : cx_Q) (L : cx_L) (q : Nat) (j : Int32) (r : List Value) (w : cx_W) (u : cx_U) : cx_vc (f + 1) X mLaw_law d mc ms K Q 180 L (.int j :: .ref q :: r) w u = ((cx_sa X w u.1 q).isSome = true ∧ vp_in j ((cx_sa X w u.1 q).getD (0, fun _ => 0)).1 ∧ cx_vc f X mLaw_law d mc ms K Q 181 L (.int (((cx_sa X w u.1 q).getD (0, fun _ => 0)).2 j.toNatClampNeg) :: r) w u) := cx_og (cx_sa X w u.1 q) (0, fun _ => 0) fun p => vp_in j p.1 ∧ cx_vc f X mLaw_law d mc ms K Q 181 L (.int (p.2 j.toNatClampNeg) :: r) w u
set_option maxRecDepth 100000 in
theorem vmLaw_law_181 (f : Nat) (X : cx_X) (d mc ms : Nat) (K : cx_K) (Q : cx_Q) (L : cx_L) (v0 v1 v2 v3 v4 : Value) (r : List Value) (w : cx_W) (u : cx_U) : cx_vc (f + 1) X mLaw_law d mc ms K Q 181 L (v4 :: v3 :: v2 :: v1 :: v0 :: r) w u = (cx_cs r ≤ 8 ∧ cx_rc [v0, v1, v2, v3, v4] w u.1 0 ∧ cx_CS d mc ms 3 [v0, v1, v2, v3, v4] w u (cx_vr2 f X mLaw_law d mc ms K Q 184 L r)) := rfl
set_option maxRecDepth 100000 in
theorem vmLaw_law_184 (f : Nat) (X : cx_X) (d mc ms : Nat) (K : cx_K) (Q : cx_Q) (l0 l1 l3 : Option Value) (x : Nat) (st : List Value) (w : cx_W) (u : cx_U) : cx_vc (f + 1) X mLaw_law d mc ms K Q 184 [l0, l1, some (.ref x), l3] st w u = (cx_vc f X mLaw_law d mc ms K Q 185 [l0, l1, some (.ref x), l3] (.ref x :: st) w u) := rfl
set_option maxRecDepth 100000 in
theorem vmLaw_law_185 (f : Nat) (X : cx_X) (d mc ms : Nat) (K : cx_K) (Q : cx_Q) (l1 l2 l3 : Option Value) (x : Nat) (st : List Value) (w : cx_W) (u : cx_U) : cx_vc (f + 1) X mLaw_law d mc ms K Q 185 [some (.ref x), l1, l2, l3] st w u = (cx_vc f X mLaw_law d mc ms K Q 186 [some (.ref x), l1, l2, l3] (.ref x :: st) w u) := rfl
set_option maxRecDepth 100000 in
theorem vmLaw_law_186 (f : Nat) (X : cx_X) (d mc ms : Nat) (K : cx_K) (Q : cx_Q) (l0 l1 l2 : Option Value) (x : Int32) (st : List Value) (w : cx_W) (u : cx_U) : cx_vc (f + 1) X mLaw_law d mc ms K Q 186 [l0, l1, l2, some (.int x)] st w u = (cx_vc f X mLaw_law d mc ms K Q 187 [l0, l1, l2, some (.int x)] (.int x :: st) w u) := rfl
set_option maxRecDepth 100000 in
theorem vmLaw_law_187 (f : Nat) (X : cx_X) (d mc ms : Nat) (K : cx_K) (Q : cx_Q) (L : cx_L) (st : List Value) (w : cx_W) (u : cx_U) : cx_vc (f + 1) X mLaw_law d mc ms K Q 187 L st w u = (cx_vc f X mLaw_law d mc ms K Q 188 L (.int 1 :: st) w u) := rfl
set_option maxRecDepth 100000 in
theorem vmLaw_law_188 (f : Nat) (X : cx_X) (d mc ms : Nat) (K : cx_K) (Q : cx_Q) (L : cx_L) (x y : Int32) (r : List Value) (w : cx_W) (u : cx_U) : cx_vc (f + 1) X mLaw_law d mc ms K Q 188 L (.int y :: .int x :: r) w u = (cx_vc f X mLaw_law d mc ms K Q 189 L (.int (x + y) :: r) w u) := rfl
set_option maxRecDepth 100000 in
theorem vmLaw_law_189 (f : Nat) (X : cx_X) (d mc ms : Nat) (K : cx_K) (Q : cx_Q) (L : cx_L) (q : Nat) (j : Int32) (r : List Value) (w : cx_W) (u : cx_U) : cx_vc (f + 1) X mLaw_law d mc ms K Q 189 L (.int j :: .ref q :: r) w u = ((cx_sa X w u.1 q).isSome = true ∧ vp_in j ((cx_sa X w u.1 q).getD (0, fun _ => 0)).1 ∧ cx_vc f X mLaw_law d mc ms K Q 190 L (.int (((cx_sa X w u.1 q).getD (0, fun _ => 0)).2 j.toNatClampNeg) :: r) w u) := cx_og (cx_sa X w u.1 q) (0, fun _ => 0) fun p => vp_in j p.1 ∧ cx_vc f X mLaw_law d mc ms K Q 190 L (.int (p.2 j.toNatClampNeg) :: r) w u
set_option maxRecDepth 100000 in
theorem vmLaw_law_190 (f : Nat) (X : cx_X) (d mc ms : Nat) (K : cx_K) (Q : cx_Q) (l1 l2 l3 : Option Value) (x : Nat) (st : List Value) (w : cx_W) (u : cx_U) : cx_vc (f + 1) X mLaw_law d mc ms K Q 190 [some (.ref x), l1, l2, l3] st w u = (cx_vc f X mLaw_law d mc ms K Q 191 [some (.ref x), l1, l2, l3] (.ref x :: st) w u) := rfl
set_option maxRecDepth 100000 in
theorem vmLaw_law_191 (f : Nat) (X : cx_X) (d mc ms : Nat) (K : cx_K) (Q : cx_Q) (l0 l1 l2 : Option Value) (x : Int32) (st : List Value) (w : cx_W) (u : cx_U) : cx_vc (f + 1) X mLaw_law d mc ms K Q 191 [l0, l1, l2, some (.int x)] st w u = (cx_vc f X mLaw_law d mc ms K Q 192 [l0, l1, l2, some (.int x)] (.int x :: st) w u) := rfl
set_option maxRecDepth 100000 in
theorem vmLaw_law_192 (f : Nat) (X : cx_X) (d mc ms : Nat) (K : cx_K) (Q : cx_Q) (L : cx_L) (st : List Value) (w : cx_W) (u : cx_U) : cx_vc (f + 1) X mLaw_law d mc ms K Q 192 L st w u = (cx_vc f X mLaw_law d mc ms K Q 193 L (.int 2 :: st) w u) := rfl
set_option maxRecDepth 100000 in
theorem vmLaw_law_193 (f : Nat) (X : cx_X) (d mc ms : Nat) (K : cx_K) (Q : cx_Q) (L : cx_L) (x y : Int32) (r : List Value) (w : cx_W) (u : cx_U) : cx_vc (f + 1) X mLaw_law d mc ms K Q 193 L (.int y :: .int x :: r) w u = (cx_vc f X mLaw_law d mc ms K Q 194 L (.int (x + y) :: r) w u) := rfl
set_option maxRecDepth 100000 in
theorem vmLaw_law_194 (f : Nat) (X : cx_X) (d mc ms : Nat) (K : cx_K) (Q : cx_Q) (L : cx_L) (q : Nat) (j : Int32) (r : List Value) (w : cx_W) (u : cx_U) : cx_vc (f + 1) X mLaw_law d mc ms K Q 194 L (.int j :: .ref q :: r) w u = ((cx_sa X w u.1 q).isSome = true ∧ vp_in j ((cx_sa X w u.1 q).getD (0, fun _ => 0)).1 ∧ cx_vc f X mLaw_law d mc ms K Q 195 L (.int (((cx_sa X w u.1 q).getD (0, fun _ => 0)).2 j.toNatClampNeg) :: r) w u) := cx_og (cx_sa X w u.1 q) (0, fun _ => 0) fun p => vp_in j p.1 ∧ cx_vc f X mLaw_law d mc ms K Q 195 L (.int (p.2 j.toNatClampNeg) :: r) w u
set_option maxRecDepth 100000 in
theorem vmLaw_law_195 (f : Nat) (X : cx_X) (d mc ms : Nat) (K : cx_K) (Q : cx_Q) (l1 l2 l3 : Option Value) (x : Nat) (st : List Value) (w : cx_W) (u : cx_U) : cx_vc (f + 1) X mLaw_law d mc ms K Q 195 [some (.ref x), l1, l2, l3] st w u = (cx_vc f X mLaw_law d mc ms K Q 196 [some (.ref x), l1, l2, l3] (.ref x :: st) w u) := rfl
set_option maxRecDepth 100000 in
theorem vmLaw_law_196 (f : Nat) (X : cx_X) (d mc ms : Nat) (K : cx_K) (Q : cx_Q) (l0 l1 l2 : Option Value) (x : Int32) (st : List Value) (w : cx_W) (u : cx_U) : cx_vc (f + 1) X mLaw_law d mc ms K Q 196 [l0, l1, l2, some (.int x)] st w u = (cx_vc f X mLaw_law d mc ms K Q 197 [l0, l1, l2, some (.int x)] (.int x :: st) w u) := rfl
set_option maxRecDepth 100000 in
theorem vmLaw_law_197 (f : Nat) (X : cx_X) (d mc ms : Nat) (K : cx_K) (Q : cx_Q) (L : cx_L) (st : List Value) (w : cx_W) (u : cx_U) : cx_vc (f + 1) X mLaw_law d mc ms K Q 197 L st w u = (cx_vc f X mLaw_law d mc ms K Q 198 L (.int 3 :: st) w u) := rfl
set_option maxRecDepth 100000 in
theorem vmLaw_law_198 (f : Nat) (X : cx_X) (d mc ms : Nat) (K : cx_K) (Q : cx_Q) (L : cx_L) (x y : Int32) (r : List Value) (w : cx_W) (u : cx_U) : cx_vc (f + 1) X mLaw_law d mc ms K Q 198 L (.int y :: .int x :: r) w u = (cx_vc f X mLaw_law d mc ms K Q 199 L (.int (x + y) :: r) w u) := rfl
set_option maxRecDepth 100000 in
theorem vmLaw_law_199 (f : Nat) (X : cx_X) (d mc ms : Nat) (K : cx_K) (Q : cx_Q) (L : cx_L) (q : Nat) (j : Int32) (r : List Value) (w : cx_W) (u : cx_U) : cx_vc (f + 1) X mLaw_law d mc ms K Q 199 L (.int j :: .ref q :: r) w u = ((cx_sa X w u.1 q).isSome = true ∧ vp_in j ((cx_sa X w u.1 q).getD (0, fun _ => 0)).1 ∧ cx_vc f X mLaw_law d mc ms K Q 200 L (.int (((cx_sa X w u.1 q).getD (0, fun _ => 0)).2 j.toNatClampNeg) :: r) w u) := cx_og (cx_sa X w u.1 q) (0, fun _ => 0) fun p => vp_in j p.1 ∧ cx_vc f X mLaw_law d mc ms K Q 200 L (.int (p.2 j.toNatClampNeg) :: r) w u
set_option maxRecDepth 100000 in
theorem vmLaw_law_200 (f : Nat) (X : cx_X) (d mc ms : Nat) (K : cx_K) (Q : cx_Q) (l1 l2 l3 : Option Value) (x : Nat) (st : List Value) (w : cx_W) (u : cx_U) : cx_vc (f + 1) X mLaw_law d mc ms K Q 200 [some (.ref x), l1, l2, l3] st w u = (cx_vc f X mLaw_law d mc ms K Q 201 [some (.ref x), l1, l2, l3] (.ref x :: st) w u) := rfl
set_option maxRecDepth 100000 in
theorem vmLaw_law_201 (f : Nat) (X : cx_X) (d mc ms : Nat) (K : cx_K) (Q : cx_Q) (l0 l1 l2 : Option Value) (x : Int32) (st : List Value) (w : cx_W) (u : cx_U) : cx_vc (f + 1) X mLaw_law d mc ms K Q 201 [l0, l1, l2, some (.int x)] st w u = (cx_vc f X mLaw_law d mc ms K Q 202 [l0, l1, l2, some (.int x)] (.int x :: st) w u) := rfl
set_option maxRecDepth 100000 in
theorem vmLaw_law_202 (f : Nat) (X : cx_X) (d mc ms : Nat) (K : cx_K) (Q : cx_Q) (L : cx_L) (st : List Value) (w : cx_W) (u : cx_U) : cx_vc (f + 1) X mLaw_law d mc ms K Q 202 L st w u = (cx_vc f X mLaw_law d mc ms K Q 203 L (.int 4 :: st) w u) := rfl
set_option maxRecDepth 100000 in
theorem vmLaw_law_203 (f : Nat) (X : cx_X) (d mc ms : Nat) (K : cx_K) (Q : cx_Q) (L : cx_L) (x y : Int32) (r : List Value) (w : cx_W) (u : cx_U) : cx_vc (f + 1) X mLaw_law d mc ms K Q 203 L (.int y :: .int x :: r) w u = (cx_vc f X mLaw_law d mc ms K Q 204 L (.int (x + y) :: r) w u) := rfl
set_option maxRecDepth 100000 in
theorem vmLaw_law_204 (f : Nat) (X : cx_X) (d mc ms : Nat) (K : cx_K) (Q : cx_Q) (L : cx_L) (q : Nat) (j : Int32) (r : List Value) (w : cx_W) (u : cx_U) : cx_vc (f + 1) X mLaw_law d mc ms K Q 204 L (.int j :: .ref q :: r) w u = ((cx_sa X w u.1 q).isSome = true ∧ vp_in j ((cx_sa X w u.1 q).getD (0, fun _ => 0)).1 ∧ cx_vc f X mLaw_law d mc ms K Q 205 L (.int (((cx_sa X w u.1 q).getD (0, fun _ => 0)).2 j.toNatClampNeg) :: r) w u) := cx_og (cx_sa X w u.1 q) (0, fun _ => 0) fun p => vp_in j p.1 ∧ cx_vc f X mLaw_law d mc ms K Q 205 L (.int (p.2 j.toNatClampNeg) :: r) w u
set_option maxRecDepth 100000 in
theorem vmLaw_law_205 (f : Nat) (X : cx_X) (d mc ms : Nat) (K : cx_K) (Q : cx_Q) (L : cx_L) (v0 v1 v2 v3 v4 : Value) (r : List Value) (w : cx_W) (u : cx_U) : cx_vc (f + 1) X mLaw_law d mc ms K Q 205 L (v4 :: v3 :: v2 :: v1 :: v0 :: r) w u = (cx_cs r ≤ 8 ∧ cx_rc [v0, v1, v2, v3, v4] w u.1 8 ∧ cx_CS d mc ms 155 [v0, v1, v2, v3, v4] w u (cx_vr2 f X mLaw_law d mc ms K Q 208 L r)) := rfl
set_option maxRecDepth 100000 in
theorem vmLaw_law_208 (f : Nat) (X : cx_X) (d mc ms : Nat) (K : cx_K) (Q : cx_Q) (L : cx_L) (x y : Int32) (r : List Value) (w : cx_W) (u : cx_U) : cx_vc (f + 1) X mLaw_law d mc ms K Q 208 L (.int y :: .int x :: r) w u = (cx_cnd .eq x y (cx_vc f X mLaw_law d mc ms K Q 570 L r w u) (cx_vc f X mLaw_law d mc ms K Q 211 L r w u)) := rfl
set_option maxRecDepth 100000 in
theorem vmLaw_law_211 (f : Nat) (X : cx_X) (d mc ms : Nat) (K : cx_K) (Q : cx_Q) (L : cx_L) (st : List Value) (w : cx_W) (u : cx_U) : cx_vc (f + 1) X mLaw_law d mc ms K Q 211 L st w u = (cx_vc f X mLaw_law d mc ms K Q 212 L (.int 0 :: st) w u) := rfl
set_option maxRecDepth 100000 in
theorem vmLaw_law_212 (f : Nat) (X : cx_X) (d mc ms : Nat) (K : cx_K) (Q : cx_Q) (L : cx_L) (x : Int32) (w : cx_W) (u : cx_U) : cx_vc (f + 1) X mLaw_law d mc ms K Q 212 L [.int x] w u = ((x = 0 ∨ x = 1) ∧ u.2.1 = mc ∧ u.2.2 ≤ ms ∧ Q (some (.int x)) w u) := cx_ri1 _ _
set_option maxRecDepth 100000 in
theorem vmLaw_law_213 (f : Nat) (X : cx_X) (d mc ms : Nat) (K : cx_K) (Q : cx_Q) (l0 l2 l3 : Option Value) (x : Nat) (st : List Value) (w : cx_W) (u : cx_U) : cx_vc (f + 1) X mLaw_law d mc ms K Q 213 [l0, some (.ref x), l2, l3] st w u = (cx_vc f X mLaw_law d mc ms K Q 214 [l0, some (.ref x), l2, l3] (.ref x :: st) w u) := rfl
set_option maxRecDepth 100000 in
theorem vmLaw_law_214 (f : Nat) (X : cx_X) (d mc ms : Nat) (K : cx_K) (Q : cx_Q) (l1 l2 l3 : Option Value) (x : Nat) (st : List Value) (w : cx_W) (u : cx_U) : cx_vc (f + 1) X mLaw_law d mc ms K Q 214 [some (.ref x), l1, l2, l3] st w u = (cx_vc f X mLaw_law d mc ms K Q 215 [some (.ref x), l1, l2, l3] (.ref x :: st) w u) := rfl
set_option maxRecDepth 100000 in
theorem vmLaw_law_215 (f : Nat) (X : cx_X) (d mc ms : Nat) (K : cx_K) (Q : cx_Q) (l0 l1 l2 : Option Value) (x : Int32) (st : List Value) (w : cx_W) (u : cx_U) : cx_vc (f + 1) X mLaw_law d mc ms K Q 215 [l0, l1, l2, some (.int x)] st w u = (cx_vc f X mLaw_law d mc ms K Q 216 [l0, l1, l2, some (.int x)] (.int x :: st) w u) := rfl
set_option maxRecDepth 100000 in
theorem vmLaw_law_216 (f : Nat) (X : cx_X) (d mc ms : Nat) (K : cx_K) (Q : cx_Q) (L : cx_L) (st : List Value) (w : cx_W) (u : cx_U) : cx_vc (f + 1) X mLaw_law d mc ms K Q 216 L st w u = (cx_vc f X mLaw_law d mc ms K Q 217 L (.int 1 :: st) w u) := rfl
set_option maxRecDepth 100000 in
theorem vmLaw_law_217 (f : Nat) (X : cx_X) (d mc ms : Nat) (K : cx_K) (Q : cx_Q) (L : cx_L) (x y : Int32) (r : List Value) (w : cx_W) (u : cx_U) : cx_vc (f + 1) X mLaw_law d mc ms K Q 217 L (.int y :: .int x :: r) w u = (cx_vc f X mLaw_law d mc ms K Q 218 L (.int (x + y) :: r) w u) := rfl
set_option maxRecDepth 100000 in
theorem vmLaw_law_218 (f : Nat) (X : cx_X) (d mc ms : Nat) (K : cx_K) (Q : cx_Q) (L : cx_L) (q : Nat) (j : Int32) (r : List Value) (w : cx_W) (u : cx_U) : cx_vc (f + 1) X mLaw_law d mc ms K Q 218 L (.int j :: .ref q :: r) w u = ((cx_sa X w u.1 q).isSome = true ∧ vp_in j ((cx_sa X w u.1 q).getD (0, fun _ => 0)).1 ∧ cx_vc f X mLaw_law d mc ms K Q 219 L (.int (((cx_sa X w u.1 q).getD (0, fun _ => 0)).2 j.toNatClampNeg) :: r) w u) := cx_og (cx_sa X w u.1 q) (0, fun _ => 0) fun p => vp_in j p.1 ∧ cx_vc f X mLaw_law d mc ms K Q 219 L (.int (p.2 j.toNatClampNeg) :: r) w u
set_option maxRecDepth 100000 in
theorem vmLaw_law_219 (f : Nat) (X : cx_X) (d mc ms : Nat) (K : cx_K) (Q : cx_Q) (l1 l2 l3 : Option Value) (x : Nat) (st : List Value) (w : cx_W) (u : cx_U) : cx_vc (f + 1) X mLaw_law d mc ms K Q 219 [some (.ref x), l1, l2, l3] st w u = (cx_vc f X mLaw_law d mc ms K Q 220 [some (.ref x), l1, l2, l3] (.ref x :: st) w u) := rfl
set_option maxRecDepth 100000 in
theorem vmLaw_law_220 (f : Nat) (X : cx_X) (d mc ms : Nat) (K : cx_K) (Q : cx_Q) (l0 l1 l2 : Option Value) (x : Int32) (st : List Value) (w : cx_W) (u : cx_U) : cx_vc (f + 1) X mLaw_law d mc ms K Q 220 [l0, l1, l2, some (.int x)] st w u = (cx_vc f X mLaw_law d mc ms K Q 221 [l0, l1, l2, some (.int x)] (.int x :: st) w u) := rfl
set_option maxRecDepth 100000 in
theorem vmLaw_law_221 (f : Nat) (X : cx_X) (d mc ms : Nat) (K : cx_K) (Q : cx_Q) (L : cx_L) (st : List Value) (w : cx_W) (u : cx_U) : cx_vc (f + 1) X mLaw_law d mc ms K Q 221 L st w u = (cx_vc f X mLaw_law d mc ms K Q 222 L (.int 2 :: st) w u) := rfl
set_option maxRecDepth 100000 in
theorem vmLaw_law_222 (f : Nat) (X : cx_X) (d mc ms : Nat) (K : cx_K) (Q : cx_Q) (L : cx_L) (x y : Int32) (r : List Value) (w : cx_W) (u : cx_U) : cx_vc (f + 1) X mLaw_law d mc ms K Q 222 L (.int y :: .int x :: r) w u = (cx_vc f X mLaw_law d mc ms K Q 223 L (.int (x + y) :: r) w u) := rfl
set_option maxRecDepth 100000 in
theorem vmLaw_law_223 (f : Nat) (X : cx_X) (d mc ms : Nat) (K : cx_K) (Q : cx_Q) (L : cx_L) (q : Nat) (j : Int32) (r : List Value) (w : cx_W) (u : cx_U) : cx_vc (f + 1) X mLaw_law d mc ms K Q 223 L (.int j :: .ref q :: r) w u = ((cx_sa X w u.1 q).isSome = true ∧ vp_in j ((cx_sa X w u.1 q).getD (0, fun _ => 0)).1 ∧ cx_vc f X mLaw_law d mc ms K Q 224 L (.int (((cx_sa X w u.1 q).getD (0, fun _ => 0)).2 j.toNatClampNeg) :: r) w u) := cx_og (cx_sa X w u.1 q) (0, fun _ => 0) fun p => vp_in j p.1 ∧ cx_vc f X mLaw_law d mc ms K Q 224 L (.int (p.2 j.toNatClampNeg) :: r) w u
set_option maxRecDepth 100000 in
theorem vmLaw_law_224 (f : Nat) (X : cx_X) (d mc ms : Nat) (K : cx_K) (Q : cx_Q) (L : cx_L) (v0 v1 v2 : Value) (r : List Value) (w : cx_W) (u : cx_U) : cx_vc (f + 1) X mLaw_law d mc ms K Q 224 L (v2 :: v1 :: v0 :: r) w u = (cx_cs r ≤ 8 ∧ cx_rc [v0, v1, v2] w u.1 0 ∧ cx_CS d mc ms 4 [v0, v1, v2] w u (cx_vr2 f X mLaw_law d mc ms K Q 227 L r)) := rfl
set_option maxRecDepth 100000 in
theorem vmLaw_law_227 (f : Nat) (X : cx_X) (d mc ms : Nat) (K : cx_K) (Q : cx_Q) (l0 l1 l3 : Option Value) (x : Nat) (st : List Value) (w : cx_W) (u : cx_U) : cx_vc (f + 1) X mLaw_law d mc ms K Q 227 [l0, l1, some (.ref x), l3] st w u = (cx_vc f X mLaw_law d mc ms K Q 228 [l0, l1, some (.ref x), l3] (.ref x :: st) w u) := rfl
set_option maxRecDepth 100000 in
theorem vmLaw_law_228 (f : Nat) (X : cx_X) (d mc ms : Nat) (K : cx_K) (Q : cx_Q) (l1 l2 l3 : Option Value) (x : Nat) (st : List Value) (w : cx_W) (u : cx_U) : cx_vc (f + 1) X mLaw_law d mc ms K Q 228 [some (.ref x), l1, l2, l3] st w u = (cx_vc f X mLaw_law d mc ms K Q 229 [some (.ref x), l1, l2, l3] (.ref x :: st) w u) := rfl
set_option maxRecDepth 100000 in
theorem vmLaw_law_229 (f : Nat) (X : cx_X) (d mc ms : Nat) (K : cx_K) (Q : cx_Q) (l0 l1 l2 : Option Value) (x : Int32) (st : List Value) (w : cx_W) (u : cx_U) : cx_vc (f + 1) X mLaw_law d mc ms K Q 229 [l0, l1, l2, some (.int x)] st w u = (cx_vc f X mLaw_law d mc ms K Q 230 [l0, l1, l2, some (.int x)] (.int x :: st) w u) := rfl
set_option maxRecDepth 100000 in
theorem vmLaw_law_230 (f : Nat) (X : cx_X) (d mc ms : Nat) (K : cx_K) (Q : cx_Q) (L : cx_L) (st : List Value) (w : cx_W) (u : cx_U) : cx_vc (f + 1) X mLaw_law d mc ms K Q 230 L st w u = (cx_vc f X mLaw_law d mc ms K Q 231 L (.int 1 :: st) w u) := rfl
set_option maxRecDepth 100000 in
theorem vmLaw_law_231 (f : Nat) (X : cx_X) (d mc ms : Nat) (K : cx_K) (Q : cx_Q) (L : cx_L) (x y : Int32) (r : List Value) (w : cx_W) (u : cx_U) : cx_vc (f + 1) X mLaw_law d mc ms K Q 231 L (.int y :: .int x :: r) w u = (cx_vc f X mLaw_law d mc ms K Q 232 L (.int (x + y) :: r) w u) := rfl
set_option maxRecDepth 100000 in
theorem vmLaw_law_232 (f : Nat) (X : cx_X) (d mc ms : Nat) (K : cx_K) (Q : cx_Q) (L : cx_L) (q : Nat) (j : Int32) (r : List Value) (w : cx_W) (u : cx_U) : cx_vc (f + 1) X mLaw_law d mc ms K Q 232 L (.int j :: .ref q :: r) w u = ((cx_sa X w u.1 q).isSome = true ∧ vp_in j ((cx_sa X w u.1 q).getD (0, fun _ => 0)).1 ∧ cx_vc f X mLaw_law d mc ms K Q 233 L (.int (((cx_sa X w u.1 q).getD (0, fun _ => 0)).2 j.toNatClampNeg) :: r) w u) := cx_og (cx_sa X w u.1 q) (0, fun _ => 0) fun p => vp_in j p.1 ∧ cx_vc f X mLaw_law d mc ms K Q 233 L (.int (p.2 j.toNatClampNeg) :: r) w u
set_option maxRecDepth 100000 in
theorem vmLaw_law_233 (f : Nat) (X : cx_X) (d mc ms : Nat) (K : cx_K) (Q : cx_Q) (l1 l2 l3 : Option Value) (x : Nat) (st : List Value) (w : cx_W) (u : cx_U) : cx_vc (f + 1) X mLaw_law d mc ms K Q 233 [some (.ref x), l1, l2, l3] st w u = (cx_vc f X mLaw_law d mc ms K Q 234 [some (.ref x), l1, l2, l3] (.ref x :: st) w u) := rfl
set_option maxRecDepth 100000 in
theorem vmLaw_law_234 (f : Nat) (X : cx_X) (d mc ms : Nat) (K : cx_K) (Q : cx_Q) (l0 l1 l2 : Option Value) (x : Int32) (st : List Value) (w : cx_W) (u : cx_U) : cx_vc (f + 1) X mLaw_law d mc ms K Q 234 [l0, l1, l2, some (.int x)] st w u = (cx_vc f X mLaw_law d mc ms K Q 235 [l0, l1, l2, some (.int x)] (.int x :: st) w u) := rfl
set_option maxRecDepth 100000 in
theorem vmLaw_law_235 (f : Nat) (X : cx_X) (d mc ms : Nat) (K : cx_K) (Q : cx_Q) (L : cx_L) (st : List Value) (w : cx_W) (u : cx_U) : cx_vc (f + 1) X mLaw_law d mc ms K Q 235 L st w u = (cx_vc f X mLaw_law d mc ms K Q 236 L (.int 2 :: st) w u) := rfl
set_option maxRecDepth 100000 in
theorem vmLaw_law_236 (f : Nat) (X : cx_X) (d mc ms : Nat) (K : cx_K) (Q : cx_Q) (L : cx_L) (x y : Int32) (r : List Value) (w : cx_W) (u : cx_U) : cx_vc (f + 1) X mLaw_law d mc ms K Q 236 L (.int y :: .int x :: r) w u = (cx_vc f X mLaw_law d mc ms K Q 237 L (.int (x + y) :: r) w u) := rfl
set_option maxRecDepth 100000 in
theorem vmLaw_law_237 (f : Nat) (X : cx_X) (d mc ms : Nat) (K : cx_K) (Q : cx_Q) (L : cx_L) (q : Nat) (j : Int32) (r : List Value) (w : cx_W) (u : cx_U) : cx_vc (f + 1) X mLaw_law d mc ms K Q 237 L (.int j :: .ref q :: r) w u = ((cx_sa X w u.1 q).isSome = true ∧ vp_in j ((cx_sa X w u.1 q).getD (0, fun _ => 0)).1 ∧ cx_vc f X mLaw_law d mc ms K Q 238 L (.int (((cx_sa X w u.1 q).getD (0, fun _ => 0)).2 j.toNatClampNeg) :: r) w u) := cx_og (cx_sa X w u.1 q) (0, fun _ => 0) fun p => vp_in j p.1 ∧ cx_vc f X mLaw_law d mc ms K Q 238 L (.int (p.2 j.toNatClampNeg) :: r) w u
set_option maxRecDepth 100000 in
theorem vmLaw_law_238 (f : Nat) (X : cx_X) (d mc ms : Nat) (K : cx_K) (Q : cx_Q) (L : cx_L) (v0 v1 v2 : Value) (r : List Value) (w : cx_W) (u : cx_U) : cx_vc (f + 1) X mLaw_law d mc ms K Q 238 L (v2 :: v1 :: v0 :: r) w u = (cx_cs r ≤ 8 ∧ cx_rc [v0, v1, v2] w u.1 8 ∧ cx_CS d mc ms 156 [v0, v1, v2] w u (cx_vr2 f X mLaw_law d mc ms K Q 241 L r)) := rfl
set_option maxRecDepth 100000 in
theorem vmLaw_law_241 (f : Nat) (X : cx_X) (d mc ms : Nat) (K : cx_K) (Q : cx_Q) (L : cx_L) (x y : Int32) (r : List Value) (w : cx_W) (u : cx_U) : cx_vc (f + 1) X mLaw_law d mc ms K Q 241 L (.int y :: .int x :: r) w u = (cx_cnd .eq x y (cx_vc f X mLaw_law d mc ms K Q 570 L r w u) (cx_vc f X mLaw_law d mc ms K Q 244 L r w u)) := rfl
set_option maxRecDepth 100000 in
theorem vmLaw_law_244 (f : Nat) (X : cx_X) (d mc ms : Nat) (K : cx_K) (Q : cx_Q) (L : cx_L) (st : List Value) (w : cx_W) (u : cx_U) : cx_vc (f + 1) X mLaw_law d mc ms K Q 244 L st w u = (cx_vc f X mLaw_law d mc ms K Q 245 L (.int 0 :: st) w u) := rfl
set_option maxRecDepth 100000 in
theorem vmLaw_law_245 (f : Nat) (X : cx_X) (d mc ms : Nat) (K : cx_K) (Q : cx_Q) (L : cx_L) (x : Int32) (w : cx_W) (u : cx_U) : cx_vc (f + 1) X mLaw_law d mc ms K Q 245 L [.int x] w u = ((x = 0 ∨ x = 1) ∧ u.2.1 = mc ∧ u.2.2 ≤ ms ∧ Q (some (.int x)) w u) := cx_ri1 _ _
set_option maxRecDepth 100000 in
theorem vmLaw_law_246 (f : Nat) (X : cx_X) (d mc ms : Nat) (K : cx_K) (Q : cx_Q) (l0 l2 l3 : Option Value) (x : Nat) (st : List Value) (w : cx_W) (u : cx_U) : cx_vc (f + 1) X mLaw_law d mc ms K Q 246 [l0, some (.ref x), l2, l3] st w u = (cx_vc f X mLaw_law d mc ms K Q 247 [l0, some (.ref x), l2, l3] (.ref x :: st) w u) := rfl
set_option maxRecDepth 100000 in
theorem vmLaw_law_247 (f : Nat) (X : cx_X) (d mc ms : Nat) (K : cx_K) (Q : cx_Q) (l1 l2 l3 : Option Value) (x : Nat) (st : List Value) (w : cx_W) (u : cx_U) : cx_vc (f + 1) X mLaw_law d mc ms K Q 247 [some (.ref x), l1, l2, l3] st w u = (cx_vc f X mLaw_law d mc ms K Q 248 [some (.ref x), l1, l2, l3] (.ref x :: st) w u) := rfl
set_option maxRecDepth 100000 in
theorem vmLaw_law_248 (f : Nat) (X : cx_X) (d mc ms : Nat) (K : cx_K) (Q : cx_Q) (l0 l1 l2 : Option Value) (x : Int32) (st : List Value) (w : cx_W) (u : cx_U) : cx_vc (f + 1) X mLaw_law d mc ms K Q 248 [l0, l1, l2, some (.int x)] st w u = (cx_vc f X mLaw_law d mc ms K Q 249 [l0, l1, l2, some (.int x)] (.int x :: st) w u) := rfl
set_option maxRecDepth 100000 in
theorem vmLaw_law_249 (f : Nat) (X : cx_X) (d mc ms : Nat) (K : cx_K) (Q : cx_Q) (L : cx_L) (st : List Value) (w : cx_W) (u : cx_U) : cx_vc (f + 1) X mLaw_law d mc ms K Q 249 L st w u = (cx_vc f X mLaw_law d mc ms K Q 250 L (.int 1 :: st) w u) := rfl
set_option maxRecDepth 100000 in
theorem vmLaw_law_250 (f : Nat) (X : cx_X) (d mc ms : Nat) (K : cx_K) (Q : cx_Q) (L : cx_L) (x y : Int32) (r : List Value) (w : cx_W) (u : cx_U) : cx_vc (f + 1) X mLaw_law d mc ms K Q 250 L (.int y :: .int x :: r) w u = (cx_vc f X mLaw_law d mc ms K Q 251 L (.int (x + y) :: r) w u) := rfl
set_option maxRecDepth 100000 in
theorem vmLaw_law_251 (f : Nat) (X : cx_X) (d mc ms : Nat) (K : cx_K) (Q : cx_Q) (L : cx_L) (q : Nat) (j : Int32) (r : List Value) (w : cx_W) (u : cx_U) : cx_vc (f + 1) X mLaw_law d mc ms K Q 251 L (.int j :: .ref q :: r) w u = ((cx_sa X w u.1 q).isSome = true ∧ vp_in j ((cx_sa X w u.1 q).getD (0, fun _ => 0)).1 ∧ cx_vc f X mLaw_law d mc ms K Q 252 L (.int (((cx_sa X w u.1 q).getD (0, fun _ => 0)).2 j.toNatClampNeg) :: r) w u) := cx_og (cx_sa X w u.1 q) (0, fun _ => 0) fun p => vp_in j p.1 ∧ cx_vc f X mLaw_law d mc ms K Q 252 L (.int (p.2 j.toNatClampNeg) :: r) w u
set_option maxRecDepth 100000 in
theorem vmLaw_law_252 (f : Nat) (X : cx_X) (d mc ms : Nat) (K : cx_K) (Q : cx_Q) (L : cx_L) (v0 v1 : Value) (r : List Value) (w : cx_W) (u : cx_U) : cx_vc (f + 1) X mLaw_law d mc ms K Q 252 L (v1 :: v0 :: r) w u = (cx_cs r ≤ 8 ∧ cx_rc [v0, v1] w u.1 0 ∧ cx_CS d mc ms 5 [v0, v1] w u (cx_vr2 f X mLaw_law d mc ms K Q 255 L r)) := rfl
set_option maxRecDepth 100000 in
theorem vmLaw_law_255 (f : Nat) (X : cx_X) (d mc ms : Nat) (K : cx_K) (Q : cx_Q) (l0 l1 l3 : Option Value) (x : Nat) (st : List Value) (w : cx_W) (u : cx_U) : cx_vc (f + 1) X mLaw_law d mc ms K Q 255 [l0, l1, some (.ref x), l3] st w u = (cx_vc f X mLaw_law d mc ms K Q 256 [l0, l1, some (.ref x), l3] (.ref x :: st) w u) := rfl
set_option maxRecDepth 100000 in
theorem vmLaw_law_256 (f : Nat) (X : cx_X) (d mc ms : Nat) (K : cx_K) (Q : cx_Q) (l1 l2 l3 : Option Value) (x : Nat) (st : List Value) (w : cx_W) (u : cx_U) : cx_vc (f + 1) X mLaw_law d mc ms K Q 256 [some (.ref x), l1, l2, l3] st w u = (cx_vc f X mLaw_law d mc ms K Q 257 [some (.ref x), l1, l2, l3] (.ref x :: st) w u) := rfl
set_option maxRecDepth 100000 in
theorem vmLaw_law_257 (f : Nat) (X : cx_X) (d mc ms : Nat) (K : cx_K) (Q : cx_Q) (l0 l1 l2 : Option Value) (x : Int32) (st : List Value) (w : cx_W) (u : cx_U) : cx_vc (f + 1) X mLaw_law d mc ms K Q 257 [l0, l1, l2, some (.int x)] st w u = (cx_vc f X mLaw_law d mc ms K Q 258 [l0, l1, l2, some (.int x)] (.int x :: st) w u) := rfl
set_option maxRecDepth 100000 in
theorem vmLaw_law_258 (f : Nat) (X : cx_X) (d mc ms : Nat) (K : cx_K) (Q : cx_Q) (L : cx_L) (st : List Value) (w : cx_W) (u : cx_U) : cx_vc (f + 1) X mLaw_law d mc ms K Q 258 L st w u = (cx_vc f X mLaw_law d mc ms K Q 259 L (.int 1 :: st) w u) := rfl
set_option maxRecDepth 100000 in
theorem vmLaw_law_259 (f : Nat) (X : cx_X) (d mc ms : Nat) (K : cx_K) (Q : cx_Q) (L : cx_L) (x y : Int32) (r : List Value) (w : cx_W) (u : cx_U) : cx_vc (f + 1) X mLaw_law d mc ms K Q 259 L (.int y :: .int x :: r) w u = (cx_vc f X mLaw_law d mc ms K Q 260 L (.int (x + y) :: r) w u) := rfl
set_option maxRecDepth 100000 in
theorem vmLaw_law_260 (f : Nat) (X : cx_X) (d mc ms : Nat) (K : cx_K) (Q : cx_Q) (L : cx_L) (q : Nat) (j : Int32) (r : List Value) (w : cx_W) (u : cx_U) : cx_vc (f + 1) X mLaw_law d mc ms K Q 260 L (.int j :: .ref q :: r) w u = ((cx_sa X w u.1 q).isSome = true ∧ vp_in j ((cx_sa X w u.1 q).getD (0, fun _ => 0)).1 ∧ cx_vc f X mLaw_law d mc ms K Q 261 L (.int (((cx_sa X w u.1 q).getD (0, fun _ => 0)).2 j.toNatClampNeg) :: r) w u) := cx_og (cx_sa X w u.1 q) (0, fun _ => 0) fun p => vp_in j p.1 ∧ cx_vc f X mLaw_law d mc ms K Q 261 L (.int (p.2 j.toNatClampNeg) :: r) w u
set_option maxRecDepth 100000 in
theorem vmLaw_law_261 (f : Nat) (X : cx_X) (d mc ms : Nat) (K : cx_K) (Q : cx_Q) (L : cx_L) (v0 v1 : Value) (r : List Value) (w : cx_W) (u : cx_U) : cx_vc (f + 1) X mLaw_law d mc ms K Q 261 L (v1 :: v0 :: r) w u = (cx_cs r ≤ 8 ∧ cx_rc [v0, v1] w u.1 8 ∧ cx_CS d mc ms 157 [v0, v1] w u (cx_vr2 f X mLaw_law d mc ms K Q 264 L r)) := rfl
set_option maxRecDepth 100000 in
theorem vmLaw_law_264 (f : Nat) (X : cx_X) (d mc ms : Nat) (K : cx_K) (Q : cx_Q) (L : cx_L) (x y : Int32) (r : List Value) (w : cx_W) (u : cx_U) : cx_vc (f + 1) X mLaw_law d mc ms K Q 264 L (.int y :: .int x :: r) w u = (cx_cnd .eq x y (cx_vc f X mLaw_law d mc ms K Q 570 L r w u) (cx_vc f X mLaw_law d mc ms K Q 267 L r w u)) := rfl
set_option maxRecDepth 100000 in
theorem vmLaw_law_267 (f : Nat) (X : cx_X) (d mc ms : Nat) (K : cx_K) (Q : cx_Q) (L : cx_L) (st : List Value) (w : cx_W) (u : cx_U) : cx_vc (f + 1) X mLaw_law d mc ms K Q 267 L st w u = (cx_vc f X mLaw_law d mc ms K Q 268 L (.int 0 :: st) w u) := rfl
set_option maxRecDepth 100000 in
theorem vmLaw_law_268 (f : Nat) (X : cx_X) (d mc ms : Nat) (K : cx_K) (Q : cx_Q) (L : cx_L) (x : Int32) (w : cx_W) (u : cx_U) : cx_vc (f + 1) X mLaw_law d mc ms K Q 268 L [.int x] w u = ((x = 0 ∨ x = 1) ∧ u.2.1 = mc ∧ u.2.2 ≤ ms ∧ Q (some (.int x)) w u) := cx_ri1 _ _
set_option maxRecDepth 100000 in
theorem vmLaw_law_269 (f : Nat) (X : cx_X) (d mc ms : Nat) (K : cx_K) (Q : cx_Q) (l0 l2 l3 : Option Value) (x : Nat) (st : List Value) (w : cx_W) (u : cx_U) : cx_vc (f + 1) X mLaw_law d mc ms K Q 269 [l0, some (.ref x), l2, l3] st w u = (cx_vc f X mLaw_law d mc ms K Q 270 [l0, some (.ref x), l2, l3] (.ref x :: st) w u) := rfl
set_option maxRecDepth 100000 in
theorem vmLaw_law_270 (f : Nat) (X : cx_X) (d mc ms : Nat) (K : cx_K) (Q : cx_Q) (l1 l2 l3 : Option Value) (x : Nat) (st : List Value) (w : cx_W) (u : cx_U) : cx_vc (f + 1) X mLaw_law d mc ms K Q 270 [some (.ref x), l1, l2, l3] st w u = (cx_vc f X mLaw_law d mc ms K Q 271 [some (.ref x), l1, l2, l3] (.ref x :: st) w u) := rfl
set_option maxRecDepth 100000 in
theorem vmLaw_law_271 (f : Nat) (X : cx_X) (d mc ms : Nat) (K : cx_K) (Q : cx_Q) (l0 l1 l2 : Option Value) (x : Int32) (st : List Value) (w : cx_W) (u : cx_U) : cx_vc (f + 1) X mLaw_law d mc ms K Q 271 [l0, l1, l2, some (.int x)] st w u = (cx_vc f X mLaw_law d mc ms K Q 272 [l0, l1, l2, some (.int x)] (.int x :: st) w u) := rfl
set_option maxRecDepth 100000 in
theorem vmLaw_law_272 (f : Nat) (X : cx_X) (d mc ms : Nat) (K : cx_K) (Q : cx_Q) (L : cx_L) (st : List Value) (w : cx_W) (u : cx_U) : cx_vc (f + 1) X mLaw_law d mc ms K Q 272 L st w u = (cx_vc f X mLaw_law d mc ms K Q 273 L (.int 1 :: st) w u) := rfl
set_option maxRecDepth 100000 in
theorem vmLaw_law_273 (f : Nat) (X : cx_X) (d mc ms : Nat) (K : cx_K) (Q : cx_Q) (L : cx_L) (x y : Int32) (r : List Value) (w : cx_W) (u : cx_U) : cx_vc (f + 1) X mLaw_law d mc ms K Q 273 L (.int y :: .int x :: r) w u = (cx_vc f X mLaw_law d mc ms K Q 274 L (.int (x + y) :: r) w u) := rfl
set_option maxRecDepth 100000 in
theorem vmLaw_law_274 (f : Nat) (X : cx_X) (d mc ms : Nat) (K : cx_K) (Q : cx_Q) (L : cx_L) (q : Nat) (j : Int32) (r : List Value) (w : cx_W) (u : cx_U) : cx_vc (f + 1) X mLaw_law d mc ms K Q 274 L (.int j :: .ref q :: r) w u = ((cx_sa X w u.1 q).isSome = true ∧ vp_in j ((cx_sa X w u.1 q).getD (0, fun _ => 0)).1 ∧ cx_vc f X mLaw_law d mc ms K Q 275 L (.int (((cx_sa X w u.1 q).getD (0, fun _ => 0)).2 j.toNatClampNeg) :: r) w u) := cx_og (cx_sa X w u.1 q) (0, fun _ => 0) fun p => vp_in j p.1 ∧ cx_vc f X mLaw_law d mc ms K Q 275 L (.int (p.2 j.toNatClampNeg) :: r) w u
set_option maxRecDepth 100000 in
theorem vmLaw_law_275 (f : Nat) (X : cx_X) (d mc ms : Nat) (K : cx_K) (Q : cx_Q) (l1 l2 l3 : Option Value) (x : Nat) (st : List Value) (w : cx_W) (u : cx_U) : cx_vc (f + 1) X mLaw_law d mc ms K Q 275 [some (.ref x), l1, l2, l3] st w u = (cx_vc f X mLaw_law d mc ms K Q 276 [some (.ref x), l1, l2, l3] (.ref x :: st) w u) := rfl
set_option maxRecDepth 100000 in
theorem vmLaw_law_276 (f : Nat) (X : cx_X) (d mc ms : Nat) (K : cx_K) (Q : cx_Q) (l0 l1 l2 : Option Value) (x : Int32) (st : List Value) (w : cx_W) (u : cx_U) : cx_vc (f + 1) X mLaw_law d mc ms K Q 276 [l0, l1, l2, some (.int x)] st w u = (cx_vc f X mLaw_law d mc ms K Q 277 [l0, l1, l2, some (.int x)] (.int x :: st) w u) := rfl
set_option maxRecDepth 100000 in
theorem vmLaw_law_277 (f : Nat) (X : cx_X) (d mc ms : Nat) (K : cx_K) (Q : cx_Q) (L : cx_L) (st : List Value) (w : cx_W) (u : cx_U) : cx_vc (f + 1) X mLaw_law d mc ms K Q 277 L st w u = (cx_vc f X mLaw_law d mc ms K Q 278 L (.int 2 :: st) w u) := rfl
set_option maxRecDepth 100000 in
theorem vmLaw_law_278 (f : Nat) (X : cx_X) (d mc ms : Nat) (K : cx_K) (Q : cx_Q) (L : cx_L) (x y : Int32) (r : List Value) (w : cx_W) (u : cx_U) : cx_vc (f + 1) X mLaw_law d mc ms K Q 278 L (.int y :: .int x :: r) w u = (cx_vc f X mLaw_law d mc ms K Q 279 L (.int (x + y) :: r) w u) := rfl
set_option maxRecDepth 100000 in
theorem vmLaw_law_279 (f : Nat) (X : cx_X) (d mc ms : Nat) (K : cx_K) (Q : cx_Q) (L : cx_L) (q : Nat) (j : Int32) (r : List Value) (w : cx_W) (u : cx_U) : cx_vc (f + 1) X mLaw_law d mc ms K Q 279 L (.int j :: .ref q :: r) w u = ((cx_sa X w u.1 q).isSome = true ∧ vp_in j ((cx_sa X w u.1 q).getD (0, fun _ => 0)).1 ∧ cx_vc f X mLaw_law d mc ms K Q 280 L (.int (((cx_sa X w u.1 q).getD (0, fun _ => 0)).2 j.toNatClampNeg) :: r) w u) := cx_og (cx_sa X w u.1 q) (0, fun _ => 0) fun p => vp_in j p.1 ∧ cx_vc f X mLaw_law d mc ms K Q 280 L (.int (p.2 j.toNatClampNeg) :: r) w u
set_option maxRecDepth 100000 in
theorem vmLaw_law_280 (f : Nat) (X : cx_X) (d mc ms : Nat) (K : cx_K) (Q : cx_Q) (l1 l2 l3 : Option Value) (x : Nat) (st : List Value) (w : cx_W) (u : cx_U) : cx_vc (f + 1) X mLaw_law d mc ms K Q 280 [some (.ref x), l1, l2, l3] st w u = (cx_vc f X mLaw_law d mc ms K Q 281 [some (.ref x), l1, l2, l3] (.ref x :: st) w u) := rfl
set_option maxRecDepth 100000 in
theorem vmLaw_law_281 (f : Nat) (X : cx_X) (d mc ms : Nat) (K : cx_K) (Q : cx_Q) (l0 l1 l2 : Option Value) (x : Int32) (st : List Value) (w : cx_W) (u : cx_U) : cx_vc (f + 1) X mLaw_law d mc ms K Q 281 [l0, l1, l2, some (.int x)] st w u = (cx_vc f X mLaw_law d mc ms K Q 282 [l0, l1, l2, some (.int x)] (.int x :: st) w u) := rfl
set_option maxRecDepth 100000 in
theorem vmLaw_law_282 (f : Nat) (X : cx_X) (d mc ms : Nat) (K : cx_K) (Q : cx_Q) (L : cx_L) (st : List Value) (w : cx_W) (u : cx_U) : cx_vc (f + 1) X mLaw_law d mc ms K Q 282 L st w u = (cx_vc f X mLaw_law d mc ms K Q 283 L (.int 3 :: st) w u) := rfl
set_option maxRecDepth 100000 in
theorem vmLaw_law_283 (f : Nat) (X : cx_X) (d mc ms : Nat) (K : cx_K) (Q : cx_Q) (L : cx_L) (x y : Int32) (r : List Value) (w : cx_W) (u : cx_U) : cx_vc (f + 1) X mLaw_law d mc ms K Q 283 L (.int y :: .int x :: r) w u = (cx_vc f X mLaw_law d mc ms K Q 284 L (.int (x + y) :: r) w u) := rfl
set_option maxRecDepth 100000 in
theorem vmLaw_law_284 (f : Nat) (X : cx_X) (d mc ms : Nat) (K : cx_K) (Q : cx_Q) (L : cx_L) (q : Nat) (j : Int32) (r : List Value) (w : cx_W) (u : cx_U) : cx_vc (f + 1) X mLaw_law d mc ms K Q 284 L (.int j :: .ref q :: r) w u = ((cx_sa X w u.1 q).isSome = true ∧ vp_in j ((cx_sa X w u.1 q).getD (0, fun _ => 0)).1 ∧ cx_vc f X mLaw_law d mc ms K Q 285 L (.int (((cx_sa X w u.1 q).getD (0, fun _ => 0)).2 j.toNatClampNeg) :: r) w u) := cx_og (cx_sa X w u.1 q) (0, fun _ => 0) fun p => vp_in j p.1 ∧ cx_vc f X mLaw_law d mc ms K Q 285 L (.int (p.2 j.toNatClampNeg) :: r) w u
set_option maxRecDepth 100000 in
theorem vmLaw_law_285 (f : Nat) (X : cx_X) (d mc ms : Nat) (K : cx_K) (Q : cx_Q) (L : cx_L) (v0 v1 v2 v3 : Value) (r : List Value) (w : cx_W) (u : cx_U) : cx_vc (f + 1) X mLaw_law d mc ms K Q 285 L (v3 :: v2 :: v1 :: v0 :: r) w u = (cx_cs r ≤ 8 ∧ cx_rc [v0, v1, v2, v3] w u.1 0 ∧ cx_CS d mc ms 6 [v0, v1, v2, v3] w u (cx_vr2 f X mLaw_law d mc ms K Q 288 L r)) := rfl
set_option maxRecDepth 100000 in
theorem vmLaw_law_288 (f : Nat) (X : cx_X) (d mc ms : Nat) (K : cx_K) (Q : cx_Q) (l0 l1 l3 : Option Value) (x : Nat) (st : List Value) (w : cx_W) (u : cx_U) : cx_vc (f + 1) X mLaw_law d mc ms K Q 288 [l0, l1, some (.ref x), l3] st w u = (cx_vc f X mLaw_law d mc ms K Q 289 [l0, l1, some (.ref x), l3] (.ref x :: st) w u) := rfl
set_option maxRecDepth 100000 in
theorem vmLaw_law_289 (f : Nat) (X : cx_X) (d mc ms : Nat) (K : cx_K) (Q : cx_Q) (l1 l2 l3 : Option Value) (x : Nat) (st : List Value) (w : cx_W) (u : cx_U) : cx_vc (f + 1) X mLaw_law d mc ms K Q 289 [some (.ref x), l1, l2, l3] st w u = (cx_vc f X mLaw_law d mc ms K Q 290 [some (.ref x), l1, l2, l3] (.ref x :: st) w u) := rfl
set_option maxRecDepth 100000 in
theorem vmLaw_law_290 (f : Nat) (X : cx_X) (d mc ms : Nat) (K : cx_K) (Q : cx_Q) (l0 l1 l2 : Option Value) (x : Int32) (st : List Value) (w : cx_W) (u : cx_U) : cx_vc (f + 1) X mLaw_law d mc ms K Q 290 [l0, l1, l2, some (.int x)] st w u = (cx_vc f X mLaw_law d mc ms K Q 291 [l0, l1, l2, some (.int x)] (.int x :: st) w u) := rfl
set_option maxRecDepth 100000 in
theorem vmLaw_law_291 (f : Nat) (X : cx_X) (d mc ms : Nat) (K : cx_K) (Q : cx_Q) (L : cx_L) (st : List Value) (w : cx_W) (u : cx_U) : cx_vc (f + 1) X mLaw_law d mc ms K Q 291 L st w u = (cx_vc f X mLaw_law d mc ms K Q 292 L (.int 1 :: st) w u) := rfl
set_option maxRecDepth 100000 in
theorem vmLaw_law_292 (f : Nat) (X : cx_X) (d mc ms : Nat) (K : cx_K) (Q : cx_Q) (L : cx_L) (x y : Int32) (r : List Value) (w : cx_W) (u : cx_U) : cx_vc (f + 1) X mLaw_law d mc ms K Q 292 L (.int y :: .int x :: r) w u = (cx_vc f X mLaw_law d mc ms K Q 293 L (.int (x + y) :: r) w u) := rfl
set_option maxRecDepth 100000 in
theorem vmLaw_law_293 (f : Nat) (X : cx_X) (d mc ms : Nat) (K : cx_K) (Q : cx_Q) (L : cx_L) (q : Nat) (j : Int32) (r : List Value) (w : cx_W) (u : cx_U) : cx_vc (f + 1) X mLaw_law d mc ms K Q 293 L (.int j :: .ref q :: r) w u = ((cx_sa X w u.1 q).isSome = true ∧ vp_in j ((cx_sa X w u.1 q).getD (0, fun _ => 0)).1 ∧ cx_vc f X mLaw_law d mc ms K Q 294 L (.int (((cx_sa X w u.1 q).getD (0, fun _ => 0)).2 j.toNatClampNeg) :: r) w u) := cx_og (cx_sa X w u.1 q) (0, fun _ => 0) fun p => vp_in j p.1 ∧ cx_vc f X mLaw_law d mc ms K Q 294 L (.int (p.2 j.toNatClampNeg) :: r) w u
set_option maxRecDepth 100000 in
theorem vmLaw_law_294 (f : Nat) (X : cx_X) (d mc ms : Nat) (K : cx_K) (Q : cx_Q) (l1 l2 l3 : Option Value) (x : Nat) (st : List Value) (w : cx_W) (u : cx_U) : cx_vc (f + 1) X mLaw_law d mc ms K Q 294 [some (.ref x), l1, l2, l3] st w u = (cx_vc f X mLaw_law d mc ms K Q 295 [some (.ref x), l1, l2, l3] (.ref x :: st) w u) := rfl
set_option maxRecDepth 100000 in
theorem vmLaw_law_295 (f : Nat) (X : cx_X) (d mc ms : Nat) (K : cx_K) (Q : cx_Q) (l0 l1 l2 : Option Value) (x : Int32) (st : List Value) (w : cx_W) (u : cx_U) : cx_vc (f + 1) X mLaw_law d mc ms K Q 295 [l0, l1, l2, some (.int x)] st w u = (cx_vc f X mLaw_law d mc ms K Q 296 [l0, l1, l2, some (.int x)] (.int x :: st) w u) := rfl
set_option maxRecDepth 100000 in
theorem vmLaw_law_296 (f : Nat) (X : cx_X) (d mc ms : Nat) (K : cx_K) (Q : cx_Q) (L : cx_L) (st : List Value) (w : cx_W) (u : cx_U) : cx_vc (f + 1) X mLaw_law d mc ms K Q 296 L st w u = (cx_vc f X mLaw_law d mc ms K Q 297 L (.int 2 :: st) w u) := rfl
set_option maxRecDepth 100000 in
theorem vmLaw_law_297 (f : Nat) (X : cx_X) (d mc ms : Nat) (K : cx_K) (Q : cx_Q) (L : cx_L) (x y : Int32) (r : List Value) (w : cx_W) (u : cx_U) : cx_vc (f + 1) X mLaw_law d mc ms K Q 297 L (.int y :: .int x :: r) w u = (cx_vc f X mLaw_law d mc ms K Q 298 L (.int (x + y) :: r) w u) := rfl
set_option maxRecDepth 100000 in
theorem vmLaw_law_298 (f : Nat) (X : cx_X) (d mc ms : Nat) (K : cx_K) (Q : cx_Q) (L : cx_L) (q : Nat) (j : Int32) (r : List Value) (w : cx_W) (u : cx_U) : cx_vc (f + 1) X mLaw_law d mc ms K Q 298 L (.int j :: .ref q :: r) w u = ((cx_sa X w u.1 q).isSome = true ∧ vp_in j ((cx_sa X w u.1 q).getD (0, fun _ => 0)).1 ∧ cx_vc f X mLaw_law d mc ms K Q 299 L (.int (((cx_sa X w u.1 q).getD (0, fun _ => 0)).2 j.toNatClampNeg) :: r) w u) := cx_og (cx_sa X w u.1 q) (0, fun _ => 0) fun p => vp_in j p.1 ∧ cx_vc f X mLaw_law d mc ms K Q 299 L (.int (p.2 j.toNatClampNeg) :: r) w u
set_option maxRecDepth 100000 in
theorem vmLaw_law_299 (f : Nat) (X : cx_X) (d mc ms : Nat) (K : cx_K) (Q : cx_Q) (l1 l2 l3 : Option Value) (x : Nat) (st : List Value) (w : cx_W) (u : cx_U) : cx_vc (f + 1) X mLaw_law d mc ms K Q 299 [some (.ref x), l1, l2, l3] st w u = (cx_vc f X mLaw_law d mc ms K Q 300 [some (.ref x), l1, l2, l3] (.ref x :: st) w u) := rfl
set_option maxRecDepth 100000 in
theorem vmLaw_law_300 (f : Nat) (X : cx_X) (d mc ms : Nat) (K : cx_K) (Q : cx_Q) (l0 l1 l2 : Option Value) (x : Int32) (st : List Value) (w : cx_W) (u : cx_U) : cx_vc (f + 1) X mLaw_law d mc ms K Q 300 [l0, l1, l2, some (.int x)] st w u = (cx_vc f X mLaw_law d mc ms K Q 301 [l0, l1, l2, some (.int x)] (.int x :: st) w u) := rfl
set_option maxRecDepth 100000 in
theorem vmLaw_law_301 (f : Nat) (X : cx_X) (d mc ms : Nat) (K : cx_K) (Q : cx_Q) (L : cx_L) (st : List Value) (w : cx_W) (u : cx_U) : cx_vc (f + 1) X mLaw_law d mc ms K Q 301 L st w u = (cx_vc f X mLaw_law d mc ms K Q 302 L (.int 3 :: st) w u) := rfl
set_option maxRecDepth 100000 in
theorem vmLaw_law_302 (f : Nat) (X : cx_X) (d mc ms : Nat) (K : cx_K) (Q : cx_Q) (L : cx_L) (x y : Int32) (r : List Value) (w : cx_W) (u : cx_U) : cx_vc (f + 1) X mLaw_law d mc ms K Q 302 L (.int y :: .int x :: r) w u = (cx_vc f X mLaw_law d mc ms K Q 303 L (.int (x + y) :: r) w u) := rfl
set_option maxRecDepth 100000 in
theorem vmLaw_law_303 (f : Nat) (X : cx_X) (d mc ms : Nat) (K : cx_K) (Q : cx_Q) (L : cx_L) (q : Nat) (j : Int32) (r : List Value) (w : cx_W) (u : cx_U) : cx_vc (f + 1) X mLaw_law d mc ms K Q 303 L (.int j :: .ref q :: r) w u = ((cx_sa X w u.1 q).isSome = true ∧ vp_in j ((cx_sa X w u.1 q).getD (0, fun _ => 0)).1 ∧ cx_vc f X mLaw_law d mc ms K Q 304 L (.int (((cx_sa X w u.1 q).getD (0, fun _ => 0)).2 j.toNatClampNeg) :: r) w u) := cx_og (cx_sa X w u.1 q) (0, fun _ => 0) fun p => vp_in j p.1 ∧ cx_vc f X mLaw_law d mc ms K Q 304 L (.int (p.2 j.toNatClampNeg) :: r) w u
set_option maxRecDepth 100000 in
theorem vmLaw_law_304 (f : Nat) (X : cx_X) (d mc ms : Nat) (K : cx_K) (Q : cx_Q) (L : cx_L) (v0 v1 v2 v3 : Value) (r : List Value) (w : cx_W) (u : cx_U) : cx_vc (f + 1) X mLaw_law d mc ms K Q 304 L (v3 :: v2 :: v1 :: v0 :: r) w u = (cx_cs r ≤ 8 ∧ cx_rc [v0, v1, v2, v3] w u.1 8 ∧ cx_CS d mc ms 159 [v0, v1, v2, v3] w u (cx_vr2 f X mLaw_law d mc ms K Q 307 L r)) := rfl
set_option maxRecDepth 100000 in
theorem vmLaw_law_307 (f : Nat) (X : cx_X) (d mc ms : Nat) (K : cx_K) (Q : cx_Q) (L : cx_L) (x y : Int32) (r : List Value) (w : cx_W) (u : cx_U) : cx_vc (f + 1) X mLaw_law d mc ms K Q 307 L (.int y :: .int x :: r) w u = (cx_cnd .eq x y (cx_vc f X mLaw_law d mc ms K Q 570 L r w u) (cx_vc f X mLaw_law d mc ms K Q 310 L r w u)) := rfl
set_option maxRecDepth 100000 in
theorem vmLaw_law_310 (f : Nat) (X : cx_X) (d mc ms : Nat) (K : cx_K) (Q : cx_Q) (L : cx_L) (st : List Value) (w : cx_W) (u : cx_U) : cx_vc (f + 1) X mLaw_law d mc ms K Q 310 L st w u = (cx_vc f X mLaw_law d mc ms K Q 311 L (.int 0 :: st) w u) := rfl
set_option maxRecDepth 100000 in
theorem vmLaw_law_311 (f : Nat) (X : cx_X) (d mc ms : Nat) (K : cx_K) (Q : cx_Q) (L : cx_L) (x : Int32) (w : cx_W) (u : cx_U) : cx_vc (f + 1) X mLaw_law d mc ms K Q 311 L [.int x] w u = ((x = 0 ∨ x = 1) ∧ u.2.1 = mc ∧ u.2.2 ≤ ms ∧ Q (some (.int x)) w u) := cx_ri1 _ _
set_option maxRecDepth 100000 in
theorem vmLaw_law_312 (f : Nat) (X : cx_X) (d mc ms : Nat) (K : cx_K) (Q : cx_Q) (l0 l2 l3 : Option Value) (x : Nat) (st : List Value) (w : cx_W) (u : cx_U) : cx_vc (f + 1) X mLaw_law d mc ms K Q 312 [l0, some (.ref x), l2, l3] st w u = (cx_vc f X mLaw_law d mc ms K Q 313 [l0, some (.ref x), l2, l3] (.ref x :: st) w u) := rfl
set_option maxRecDepth 100000 in
theorem vmLaw_law_313 (f : Nat) (X : cx_X) (d mc ms : Nat) (K : cx_K) (Q : cx_Q) (L : cx_L) (v0 : Value) (r : List Value) (w : cx_W) (u : cx_U) : cx_vc (f + 1) X mLaw_law d mc ms K Q 313 L (v0 :: r) w u = (cx_cs r ≤ 8 ∧ cx_rc [v0] w u.1 0 ∧ cx_CS d mc ms 7 [v0] w u (cx_vr2 f X mLaw_law d mc ms K Q 316 L r)) := rfl
set_option maxRecDepth 100000 in
theorem vmLaw_law_316 (f : Nat) (X : cx_X) (d mc ms : Nat) (K : cx_K) (Q : cx_Q) (l0 l1 l3 : Option Value) (x : Nat) (st : List Value) (w : cx_W) (u : cx_U) : cx_vc (f + 1) X mLaw_law d mc ms K Q 316 [l0, l1, some (.ref x), l3] st w u = (cx_vc f X mLaw_law d mc ms K Q 317 [l0, l1, some (.ref x), l3] (.ref x :: st) w u) := rfl
set_option maxRecDepth 100000 in
theorem vmLaw_law_317 (f : Nat) (X : cx_X) (d mc ms : Nat) (K : cx_K) (Q : cx_Q) (L : cx_L) (v0 : Value) (r : List Value) (w : cx_W) (u : cx_U) : cx_vc (f + 1) X mLaw_law d mc ms K Q 317 L (v0 :: r) w u = (cx_cs r ≤ 8 ∧ cx_rc [v0] w u.1 8 ∧ cx_CS d mc ms 160 [v0] w u (cx_vr2 f X mLaw_law d mc ms K Q 320 L r)) := rfl
set_option maxRecDepth 100000 in
theorem vmLaw_law_320 (f : Nat) (X : cx_X) (d mc ms : Nat) (K : cx_K) (Q : cx_Q) (L : cx_L) (x y : Int32) (r : List Value) (w : cx_W) (u : cx_U) : cx_vc (f + 1) X mLaw_law d mc ms K Q 320 L (.int y :: .int x :: r) w u = (cx_cnd .eq x y (cx_vc f X mLaw_law d mc ms K Q 570 L r w u) (cx_vc f X mLaw_law d mc ms K Q 323 L r w u)) := rfl
set_option maxRecDepth 100000 in
theorem vmLaw_law_323 (f : Nat) (X : cx_X) (d mc ms : Nat) (K : cx_K) (Q : cx_Q) (L : cx_L) (st : List Value) (w : cx_W) (u : cx_U) : cx_vc (f + 1) X mLaw_law d mc ms K Q 323 L st w u = (cx_vc f X mLaw_law d mc ms K Q 324 L (.int 0 :: st) w u) := rfl
set_option maxRecDepth 100000 in
theorem vmLaw_law_324 (f : Nat) (X : cx_X) (d mc ms : Nat) (K : cx_K) (Q : cx_Q) (L : cx_L) (x : Int32) (w : cx_W) (u : cx_U) : cx_vc (f + 1) X mLaw_law d mc ms K Q 324 L [.int x] w u = ((x = 0 ∨ x = 1) ∧ u.2.1 = mc ∧ u.2.2 ≤ ms ∧ Q (some (.int x)) w u) := cx_ri1 _ _
set_option maxRecDepth 100000 in
theorem vmLaw_law_325 (f : Nat) (X : cx_X) (d mc ms : Nat) (K : cx_K) (Q : cx_Q) (l0 l2 l3 : Option Value) (x : Nat) (st : List Value) (w : cx_W) (u : cx_U) : cx_vc (f + 1) X mLaw_law d mc ms K Q 325 [l0, some (.ref x), l2, l3] st w u = (cx_vc f X mLaw_law d mc ms K Q 326 [l0, some (.ref x), l2, l3] (.ref x :: st) w u) := rfl
set_option maxRecDepth 100000 in
theorem vmLaw_law_326 (f : Nat) (X : cx_X) (d mc ms : Nat) (K : cx_K) (Q : cx_Q) (l1 l2 l3 : Option Value) (x : Nat) (st : List Value) (w : cx_W) (u : cx_U) : cx_vc (f + 1) X mLaw_law d mc ms K Q 326 [some (.ref x), l1, l2, l3] st w u = (cx_vc f X mLaw_law d mc ms K Q 327 [some (.ref x), l1, l2, l3] (.ref x :: st) w u) := rfl
set_option maxRecDepth 100000 in
theorem vmLaw_law_327 (f : Nat) (X : cx_X) (d mc ms : Nat) (K : cx_K) (Q : cx_Q) (l0 l1 l2 : Option Value) (x : Int32) (st : List Value) (w : cx_W) (u : cx_U) : cx_vc (f + 1) X mLaw_law d mc ms K Q 327 [l0, l1, l2, some (.int x)] st w u = (cx_vc f X mLaw_law d mc ms K Q 328 [l0, l1, l2, some (.int x)] (.int x :: st) w u) := rfl
set_option maxRecDepth 100000 in
theorem vmLaw_law_328 (f : Nat) (X : cx_X) (d mc ms : Nat) (K : cx_K) (Q : cx_Q) (L : cx_L) (st : List Value) (w : cx_W) (u : cx_U) : cx_vc (f + 1) X mLaw_law d mc ms K Q 328 L st w u = (cx_vc f X mLaw_law d mc ms K Q 329 L (.int 1 :: st) w u) := rfl
set_option maxRecDepth 100000 in
theorem vmLaw_law_329 (f : Nat) (X : cx_X) (d mc ms : Nat) (K : cx_K) (Q : cx_Q) (L : cx_L) (x y : Int32) (r : List Value) (w : cx_W) (u : cx_U) : cx_vc (f + 1) X mLaw_law d mc ms K Q 329 L (.int y :: .int x :: r) w u = (cx_vc f X mLaw_law d mc ms K Q 330 L (.int (x + y) :: r) w u) := rfl
set_option maxRecDepth 100000 in
theorem vmLaw_law_330 (f : Nat) (X : cx_X) (d mc ms : Nat) (K : cx_K) (Q : cx_Q) (L : cx_L) (q : Nat) (j : Int32) (r : List Value) (w : cx_W) (u : cx_U) : cx_vc (f + 1) X mLaw_law d mc ms K Q 330 L (.int j :: .ref q :: r) w u = ((cx_sa X w u.1 q).isSome = true ∧ vp_in j ((cx_sa X w u.1 q).getD (0, fun _ => 0)).1 ∧ cx_vc f X mLaw_law d mc ms K Q 331 L (.int (((cx_sa X w u.1 q).getD (0, fun _ => 0)).2 j.toNatClampNeg) :: r) w u) := cx_og (cx_sa X w u.1 q) (0, fun _ => 0) fun p => vp_in j p.1 ∧ cx_vc f X mLaw_law d mc ms K Q 331 L (.int (p.2 j.toNatClampNeg) :: r) w u
set_option maxRecDepth 100000 in
theorem vmLaw_law_331 (f : Nat) (X : cx_X) (d mc ms : Nat) (K : cx_K) (Q : cx_Q) (L : cx_L) (v0 v1 : Value) (r : List Value) (w : cx_W) (u : cx_U) : cx_vc (f + 1) X mLaw_law d mc ms K Q 331 L (v1 :: v0 :: r) w u = (cx_cs r ≤ 8 ∧ cx_rc [v0, v1] w u.1 0 ∧ cx_CS d mc ms 8 [v0, v1] w u (cx_vr2 f X mLaw_law d mc ms K Q 334 L r)) := rfl
set_option maxRecDepth 100000 in
theorem vmLaw_law_334 (f : Nat) (X : cx_X) (d mc ms : Nat) (K : cx_K) (Q : cx_Q) (l0 l1 l3 : Option Value) (x : Nat) (st : List Value) (w : cx_W) (u : cx_U) : cx_vc (f + 1) X mLaw_law d mc ms K Q 334 [l0, l1, some (.ref x), l3] st w u = (cx_vc f X mLaw_law d mc ms K Q 335 [l0, l1, some (.ref x), l3] (.ref x :: st) w u) := rfl
set_option maxRecDepth 100000 in
theorem vmLaw_law_335 (f : Nat) (X : cx_X) (d mc ms : Nat) (K : cx_K) (Q : cx_Q) (l1 l2 l3 : Option Value) (x : Nat) (st : List Value) (w : cx_W) (u : cx_U) : cx_vc (f + 1) X mLaw_law d mc ms K Q 335 [some (.ref x), l1, l2, l3] st w u = (cx_vc f X mLaw_law d mc ms K Q 336 [some (.ref x), l1, l2, l3] (.ref x :: st) w u) := rfl
set_option maxRecDepth 100000 in
theorem vmLaw_law_336 (f : Nat) (X : cx_X) (d mc ms : Nat) (K : cx_K) (Q : cx_Q) (l0 l1 l2 : Option Value) (x : Int32) (st : List Value) (w : cx_W) (u : cx_U) : cx_vc (f + 1) X mLaw_law d mc ms K Q 336 [l0, l1, l2, some (.int x)] st w u = (cx_vc f X mLaw_law d mc ms K Q 337 [l0, l1, l2, some (.int x)] (.int x :: st) w u) := rfl
set_option maxRecDepth 100000 in
theorem vmLaw_law_337 (f : Nat) (X : cx_X) (d mc ms : Nat) (K : cx_K) (Q : cx_Q) (L : cx_L) (st : List Value) (w : cx_W) (u : cx_U) : cx_vc (f + 1) X mLaw_law d mc ms K Q 337 L st w u = (cx_vc f X mLaw_law d mc ms K Q 338 L (.int 1 :: st) w u) := rfl
set_option maxRecDepth 100000 in
theorem vmLaw_law_338 (f : Nat) (X : cx_X) (d mc ms : Nat) (K : cx_K) (Q : cx_Q) (L : cx_L) (x y : Int32) (r : List Value) (w : cx_W) (u : cx_U) : cx_vc (f + 1) X mLaw_law d mc ms K Q 338 L (.int y :: .int x :: r) w u = (cx_vc f X mLaw_law d mc ms K Q 339 L (.int (x + y) :: r) w u) := rfl
set_option maxRecDepth 100000 in
theorem vmLaw_law_339 (f : Nat) (X : cx_X) (d mc ms : Nat) (K : cx_K) (Q : cx_Q) (L : cx_L) (q : Nat) (j : Int32) (r : List Value) (w : cx_W) (u : cx_U) : cx_vc (f + 1) X mLaw_law d mc ms K Q 339 L (.int j :: .ref q :: r) w u = ((cx_sa X w u.1 q).isSome = true ∧ vp_in j ((cx_sa X w u.1 q).getD (0, fun _ => 0)).1 ∧ cx_vc f X mLaw_law d mc ms K Q 340 L (.int (((cx_sa X w u.1 q).getD (0, fun _ => 0)).2 j.toNatClampNeg) :: r) w u) := cx_og (cx_sa X w u.1 q) (0, fun _ => 0) fun p => vp_in j p.1 ∧ cx_vc f X mLaw_law d mc ms K Q 340 L (.int (p.2 j.toNatClampNeg) :: r) w u
set_option maxRecDepth 100000 in
theorem vmLaw_law_340 (f : Nat) (X : cx_X) (d mc ms : Nat) (K : cx_K) (Q : cx_Q) (L : cx_L) (v0 v1 : Value) (r : List Value) (w : cx_W) (u : cx_U) : cx_vc (f + 1) X mLaw_law d mc ms K Q 340 L (v1 :: v0 :: r) w u = (cx_cs r ≤ 8 ∧ cx_rc [v0, v1] w u.1 8 ∧ cx_CS d mc ms 161 [v0, v1] w u (cx_vr2 f X mLaw_law d mc ms K Q 343 L r)) := rfl
set_option maxRecDepth 100000 in
theorem vmLaw_law_343 (f : Nat) (X : cx_X) (d mc ms : Nat) (K : cx_K) (Q : cx_Q) (L : cx_L) (x y : Int32) (r : List Value) (w : cx_W) (u : cx_U) : cx_vc (f + 1) X mLaw_law d mc ms K Q 343 L (.int y :: .int x :: r) w u = (cx_cnd .eq x y (cx_vc f X mLaw_law d mc ms K Q 570 L r w u) (cx_vc f X mLaw_law d mc ms K Q 346 L r w u)) := rfl
set_option maxRecDepth 100000 in
theorem vmLaw_law_346 (f : Nat) (X : cx_X) (d mc ms : Nat) (K : cx_K) (Q : cx_Q) (L : cx_L) (st : List Value) (w : cx_W) (u : cx_U) : cx_vc (f + 1) X mLaw_law d mc ms K Q 346 L st w u = (cx_vc f X mLaw_law d mc ms K Q 347 L (.int 0 :: st) w u) := rfl
set_option maxRecDepth 100000 in
theorem vmLaw_law_347 (f : Nat) (X : cx_X) (d mc ms : Nat) (K : cx_K) (Q : cx_Q) (L : cx_L) (x : Int32) (w : cx_W) (u : cx_U) : cx_vc (f + 1) X mLaw_law d mc ms K Q 347 L [.int x] w u = ((x = 0 ∨ x = 1) ∧ u.2.1 = mc ∧ u.2.2 ≤ ms ∧ Q (some (.int x)) w u) := cx_ri1 _ _
set_option maxRecDepth 100000 in
theorem vmLaw_law_348 (f : Nat) (X : cx_X) (d mc ms : Nat) (K : cx_K) (Q : cx_Q) (l0 l2 l3 : Option Value) (x : Nat) (st : List Value) (w : cx_W) (u : cx_U) : cx_vc (f + 1) X mLaw_law d mc ms K Q 348 [l0, some (.ref x), l2, l3] st w u = (cx_vc f X mLaw_law d mc ms K Q 349 [l0, some (.ref x), l2, l3] (.ref x :: st) w u) := rfl
set_option maxRecDepth 100000 in
theorem vmLaw_law_349 (f : Nat) (X : cx_X) (d mc ms : Nat) (K : cx_K) (Q : cx_Q) (l1 l2 l3 : Option Value) (x : Nat) (st : List Value) (w : cx_W) (u : cx_U) : cx_vc (f + 1) X mLaw_law d mc ms K Q 349 [some (.ref x), l1, l2, l3] st w u = (cx_vc f X mLaw_law d mc ms K Q 350 [some (.ref x), l1, l2, l3] (.ref x :: st) w u) := rfl
set_option maxRecDepth 100000 in
theorem vmLaw_law_350 (f : Nat) (X : cx_X) (d mc ms : Nat) (K : cx_K) (Q : cx_Q) (l0 l1 l2 : Option Value) (x : Int32) (st : List Value) (w : cx_W) (u : cx_U) : cx_vc (f + 1) X mLaw_law d mc ms K Q 350 [l0, l1, l2, some (.int x)] st w u = (cx_vc f X mLaw_law d mc ms K Q 351 [l0, l1, l2, some (.int x)] (.int x :: st) w u) := rfl
set_option maxRecDepth 100000 in
theorem vmLaw_law_351 (f : Nat) (X : cx_X) (d mc ms : Nat) (K : cx_K) (Q : cx_Q) (L : cx_L) (st : List Value) (w : cx_W) (u : cx_U) : cx_vc (f + 1) X mLaw_law d mc ms K Q 351 L st w u = (cx_vc f X mLaw_law d mc ms K Q 352 L (.int 1 :: st) w u) := rfl
set_option maxRecDepth 100000 in
theorem vmLaw_law_352 (f : Nat) (X : cx_X) (d mc ms : Nat) (K : cx_K) (Q : cx_Q) (L : cx_L) (x y : Int32) (r : List Value) (w : cx_W) (u : cx_U) : cx_vc (f + 1) X mLaw_law d mc ms K Q 352 L (.int y :: .int x :: r) w u = (cx_vc f X mLaw_law d mc ms K Q 353 L (.int (x + y) :: r) w u) := rfl
set_option maxRecDepth 100000 in
theorem vmLaw_law_353 (f : Nat) (X : cx_X) (d mc ms : Nat) (K : cx_K) (Q : cx_Q) (L : cx_L) (q : Nat) (j : Int32) (r : List Value) (w : cx_W) (u : cx_U) : cx_vc (f + 1) X mLaw_law d mc ms K Q 353 L (.int j :: .ref q :: r) w u = ((cx_sa X w u.1 q).isSome = true ∧ vp_in j ((cx_sa X w u.1 q).getD (0, fun _ => 0)).1 ∧ cx_vc f X mLaw_law d mc ms K Q 354 L (.int (((cx_sa X w u.1 q).getD (0, fun _ => 0)).2 j.toNatClampNeg) :: r) w u) := cx_og (cx_sa X w u.1 q) (0, fun _ => 0) fun p => vp_in j p.1 ∧ cx_vc f X mLaw_law d mc ms K Q 354 L (.int (p.2 j.toNatClampNeg) :: r) w u
set_option maxRecDepth 100000 in
theorem vmLaw_law_354 (f : Nat) (X : cx_X) (d mc ms : Nat) (K : cx_K) (Q : cx_Q) (l1 l2 l3 : Option Value) (x : Nat) (st : List Value) (w : cx_W) (u : cx_U) : cx_vc (f + 1) X mLaw_law d mc ms K Q 354 [some (.ref x), l1, l2, l3] st w u = (cx_vc f X mLaw_law d mc ms K Q 355 [some (.ref x), l1, l2, l3] (.ref x :: st) w u) := rfl
set_option maxRecDepth 100000 in
theorem vmLaw_law_355 (f : Nat) (X : cx_X) (d mc ms : Nat) (K : cx_K) (Q : cx_Q) (l0 l1 l2 : Option Value) (x : Int32) (st : List Value) (w : cx_W) (u : cx_U) : cx_vc (f + 1) X mLaw_law d mc ms K Q 355 [l0, l1, l2, some (.int x)] st w u = (cx_vc f X mLaw_law d mc ms K Q 356 [l0, l1, l2, some (.int x)] (.int x :: st) w u) := rfl
set_option maxRecDepth 100000 in
theorem vmLaw_law_356 (f : Nat) (X : cx_X) (d mc ms : Nat) (K : cx_K) (Q : cx_Q) (L : cx_L) (st : List Value) (w : cx_W) (u : cx_U) : cx_vc (f + 1) X mLaw_law d mc ms K Q 356 L st w u = (cx_vc f X mLaw_law d mc ms K Q 357 L (.int 2 :: st) w u) := rfl
set_option maxRecDepth 100000 in
theorem vmLaw_law_357 (f : Nat) (X : cx_X) (d mc ms : Nat) (K : cx_K) (Q : cx_Q) (L : cx_L) (x y : Int32) (r : List Value) (w : cx_W) (u : cx_U) : cx_vc (f + 1) X mLaw_law d mc ms K Q 357 L (.int y :: .int x :: r) w u = (cx_vc f X mLaw_law d mc ms K Q 358 L (.int (x + y) :: r) w u) := rfl
set_option maxRecDepth 100000 in
theorem vmLaw_law_358 (f : Nat) (X : cx_X) (d mc ms : Nat) (K : cx_K) (Q : cx_Q) (L : cx_L) (q : Nat) (j : Int32) (r : List Value) (w : cx_W) (u : cx_U) : cx_vc (f + 1) X mLaw_law d mc ms K Q 358 L (.int j :: .ref q :: r) w u = ((cx_sa X w u.1 q).isSome = true ∧ vp_in j ((cx_sa X w u.1 q).getD (0, fun _ => 0)).1 ∧ cx_vc f X mLaw_law d mc ms K Q 359 L (.int (((cx_sa X w u.1 q).getD (0, fun _ => 0)).2 j.toNatClampNeg) :: r) w u) := cx_og (cx_sa X w u.1 q) (0, fun _ => 0) fun p => vp_in j p.1 ∧ cx_vc f X mLaw_law d mc ms K Q 359 L (.int (p.2 j.toNatClampNeg) :: r) w u
set_option maxRecDepth 100000 in
theorem vmLaw_law_359 (f : Nat) (X : cx_X) (d mc ms : Nat) (K : cx_K) (Q : cx_Q) (L : cx_L) (v0 v1 v2 : Value) (r : List Value) (w : cx_W) (u : cx_U) : cx_vc (f + 1) X mLaw_law d mc ms K Q 359 L (v2 :: v1 :: v0 :: r) w u = (cx_cs r ≤ 8 ∧ cx_rc [v0, v1, v2] w u.1 0 ∧ cx_CS d mc ms 9 [v0, v1, v2] w u (cx_vr2 f X mLaw_law d mc ms K Q 362 L r)) := rfl
set_option maxRecDepth 100000 in
theorem vmLaw_law_362 (f : Nat) (X : cx_X) (d mc ms : Nat) (K : cx_K) (Q : cx_Q) (l0 l1 l3 : Option Value) (x : Nat) (st : List Value) (w : cx_W) (u : cx_U) : cx_vc (f + 1) X mLaw_law d mc ms K Q 362 [l0, l1, some (.ref x), l3] st w u = (cx_vc f X mLaw_law d mc ms K Q 363 [l0, l1, some (.ref x), l3] (.ref x :: st) w u) := rfl
set_option maxRecDepth 100000 in
theorem vmLaw_law_363 (f : Nat) (X : cx_X) (d mc ms : Nat) (K : cx_K) (Q : cx_Q) (l1 l2 l3 : Option Value) (x : Nat) (st : List Value) (w : cx_W) (u : cx_U) : cx_vc (f + 1) X mLaw_law d mc ms K Q 363 [some (.ref x), l1, l2, l3] st w u = (cx_vc f X mLaw_law d mc ms K Q 364 [some (.ref x), l1, l2, l3] (.ref x :: st) w u) := rfl
set_option maxRecDepth 100000 in
theorem vmLaw_law_364 (f : Nat) (X : cx_X) (d mc ms : Nat) (K : cx_K) (Q : cx_Q) (l0 l1 l2 : Option Value) (x : Int32) (st : List Value) (w : cx_W) (u : cx_U) : cx_vc (f + 1) X mLaw_law d mc ms K Q 364 [l0, l1, l2, some (.int x)] st w u = (cx_vc f X mLaw_law d mc ms K Q 365 [l0, l1, l2, some (.int x)] (.int x :: st) w u) := rfl
set_option maxRecDepth 100000 in
theorem vmLaw_law_365 (f : Nat) (X : cx_X) (d mc ms : Nat) (K : cx_K) (Q : cx_Q) (L : cx_L) (st : List Value) (w : cx_W) (u : cx_U) : cx_vc (f + 1) X mLaw_law d mc ms K Q 365 L st w u = (cx_vc f X mLaw_law d mc ms K Q 366 L (.int 1 :: st) w u) := rfl
set_option maxRecDepth 100000 in
theorem vmLaw_law_366 (f : Nat) (X : cx_X) (d mc ms : Nat) (K : cx_K) (Q : cx_Q) (L : cx_L) (x y : Int32) (r : List Value) (w : cx_W) (u : cx_U) : cx_vc (f + 1) X mLaw_law d mc ms K Q 366 L (.int y :: .int x :: r) w u = (cx_vc f X mLaw_law d mc ms K Q 367 L (.int (x + y) :: r) w u) := rfl
set_option maxRecDepth 100000 in
theorem vmLaw_law_367 (f : Nat) (X : cx_X) (d mc ms : Nat) (K : cx_K) (Q : cx_Q) (L : cx_L) (q : Nat) (j : Int32) (r : List Value) (w : cx_W) (u : cx_U) : cx_vc (f + 1) X mLaw_law d mc ms K Q 367 L (.int j :: .ref q :: r) w u = ((cx_sa X w u.1 q).isSome = true ∧ vp_in j ((cx_sa X w u.1 q).getD (0, fun _ => 0)).1 ∧ cx_vc f X mLaw_law d mc ms K Q 368 L (.int (((cx_sa X w u.1 q).getD (0, fun _ => 0)).2 j.toNatClampNeg) :: r) w u) := cx_og (cx_sa X w u.1 q) (0, fun _ => 0) fun p => vp_in j p.1 ∧ cx_vc f X mLaw_law d mc ms K Q 368 L (.int (p.2 j.toNatClampNeg) :: r) w u
set_option maxRecDepth 100000 in
theorem vmLaw_law_368 (f : Nat) (X : cx_X) (d mc ms : Nat) (K : cx_K) (Q : cx_Q) (l1 l2 l3 : Option Value) (x : Nat) (st : List Value) (w : cx_W) (u : cx_U) : cx_vc (f + 1) X mLaw_law d mc ms K Q 368 [some (.ref x), l1, l2, l3] st w u = (cx_vc f X mLaw_law d mc ms K Q 369 [some (.ref x), l1, l2, l3] (.ref x :: st) w u) := rfl
set_option maxRecDepth 100000 in
theorem vmLaw_law_369 (f : Nat) (X : cx_X) (d mc ms : Nat) (K : cx_K) (Q : cx_Q) (l0 l1 l2 : Option Value) (x : Int32) (st : List Value) (w : cx_W) (u : cx_U) : cx_vc (f + 1) X mLaw_law d mc ms K Q 369 [l0, l1, l2, some (.int x)] st w u = (cx_vc f X mLaw_law d mc ms K Q 370 [l0, l1, l2, some (.int x)] (.int x :: st) w u) := rfl
set_option maxRecDepth 100000 in
theorem vmLaw_law_370 (f : Nat) (X : cx_X) (d mc ms : Nat) (K : cx_K) (Q : cx_Q) (L : cx_L) (st : List Value) (w : cx_W) (u : cx_U) : cx_vc (f + 1) X mLaw_law d mc ms K Q 370 L st w u = (cx_vc f X mLaw_law d mc ms K Q 371 L (.int 2 :: st) w u) := rfl
set_option maxRecDepth 100000 in
theorem vmLaw_law_371 (f : Nat) (X : cx_X) (d mc ms : Nat) (K : cx_K) (Q : cx_Q) (L : cx_L) (x y : Int32) (r : List Value) (w : cx_W) (u : cx_U) : cx_vc (f + 1) X mLaw_law d mc ms K Q 371 L (.int y :: .int x :: r) w u = (cx_vc f X mLaw_law d mc ms K Q 372 L (.int (x + y) :: r) w u) := rfl
set_option maxRecDepth 100000 in
theorem vmLaw_law_372 (f : Nat) (X : cx_X) (d mc ms : Nat) (K : cx_K) (Q : cx_Q) (L : cx_L) (q : Nat) (j : Int32) (r : List Value) (w : cx_W) (u : cx_U) : cx_vc (f + 1) X mLaw_law d mc ms K Q 372 L (.int j :: .ref q :: r) w u = ((cx_sa X w u.1 q).isSome = true ∧ vp_in j ((cx_sa X w u.1 q).getD (0, fun _ => 0)).1 ∧ cx_vc f X mLaw_law d mc ms K Q 373 L (.int (((cx_sa X w u.1 q).getD (0, fun _ => 0)).2 j.toNatClampNeg) :: r) w u) := cx_og (cx_sa X w u.1 q) (0, fun _ => 0) fun p => vp_in j p.1 ∧ cx_vc f X mLaw_law d mc ms K Q 373 L (.int (p.2 j.toNatClampNeg) :: r) w u
set_option maxRecDepth 100000 in
theorem vmLaw_law_373 (f : Nat) (X : cx_X) (d mc ms : Nat) (K : cx_K) (Q : cx_Q) (L : cx_L) (v0 v1 v2 : Value) (r : List Value) (w : cx_W) (u : cx_U) : cx_vc (f + 1) X mLaw_law d mc ms K Q 373 L (v2 :: v1 :: v0 :: r) w u = (cx_cs r ≤ 8 ∧ cx_rc [v0, v1, v2] w u.1 8 ∧ cx_CS d mc ms 162 [v0, v1, v2] w u (cx_vr2 f X mLaw_law d mc ms K Q 376 L r)) := rfl
set_option maxRecDepth 100000 in
theorem vmLaw_law_376 (f : Nat) (X : cx_X) (d mc ms : Nat) (K : cx_K) (Q : cx_Q) (L : cx_L) (x y : Int32) (r : List Value) (w : cx_W) (u : cx_U) : cx_vc (f + 1) X mLaw_law d mc ms K Q 376 L (.int y :: .int x :: r) w u = (cx_cnd .eq x y (cx_vc f X mLaw_law d mc ms K Q 570 L r w u) (cx_vc f X mLaw_law d mc ms K Q 379 L r w u)) := rfl
set_option maxRecDepth 100000 in
theorem vmLaw_law_379 (f : Nat) (X : cx_X) (d mc ms : Nat) (K : cx_K) (Q : cx_Q) (L : cx_L) (st : List Value) (w : cx_W) (u : cx_U) : cx_vc (f + 1) X mLaw_law d mc ms K Q 379 L st w u = (cx_vc f X mLaw_law d mc ms K Q 380 L (.int 0 :: st) w u) := rfl
set_option maxRecDepth 100000 in
theorem vmLaw_law_380 (f : Nat) (X : cx_X) (d mc ms : Nat) (K : cx_K) (Q : cx_Q) (L : cx_L) (x : Int32) (w : cx_W) (u : cx_U) : cx_vc (f + 1) X mLaw_law d mc ms K Q 380 L [.int x] w u = ((x = 0 ∨ x = 1) ∧ u.2.1 = mc ∧ u.2.2 ≤ ms ∧ Q (some (.int x)) w u) := cx_ri1 _ _
set_option maxRecDepth 100000 in
theorem vmLaw_law_381 (f : Nat) (X : cx_X) (d mc ms : Nat) (K : cx_K) (Q : cx_Q) (l0 l2 l3 : Option Value) (x : Nat) (st : List Value) (w : cx_W) (u : cx_U) : cx_vc (f + 1) X mLaw_law d mc ms K Q 381 [l0, some (.ref x), l2, l3] st w u = (cx_vc f X mLaw_law d mc ms K Q 382 [l0, some (.ref x), l2, l3] (.ref x :: st) w u) := rfl
set_option maxRecDepth 100000 in
theorem vmLaw_law_382 (f : Nat) (X : cx_X) (d mc ms : Nat) (K : cx_K) (Q : cx_Q) (L : cx_L) (v0 : Value) (r : List Value) (w : cx_W) (u : cx_U) : cx_vc (f + 1) X mLaw_law d mc ms K Q 382 L (v0 :: r) w u = (cx_cs r ≤ 8 ∧ cx_rc [v0] w u.1 0 ∧ cx_CS d mc ms 10 [v0] w u (cx_vr2 f X mLaw_law d mc ms K Q 385 L r)) := rfl
set_option maxRecDepth 100000 in
theorem vmLaw_law_385 (f : Nat) (X : cx_X) (d mc ms : Nat) (K : cx_K) (Q : cx_Q) (l0 l1 l3 : Option Value) (x : Nat) (st : List Value) (w : cx_W) (u : cx_U) : cx_vc (f + 1) X mLaw_law d mc ms K Q 385 [l0, l1, some (.ref x), l3] st w u = (cx_vc f X mLaw_law d mc ms K Q 386 [l0, l1, some (.ref x), l3] (.ref x :: st) w u) := rfl
set_option maxRecDepth 100000 in
theorem vmLaw_law_386 (f : Nat) (X : cx_X) (d mc ms : Nat) (K : cx_K) (Q : cx_Q) (L : cx_L) (v0 : Value) (r : List Value) (w : cx_W) (u : cx_U) : cx_vc (f + 1) X mLaw_law d mc ms K Q 386 L (v0 :: r) w u = (cx_cs r ≤ 8 ∧ cx_rc [v0] w u.1 8 ∧ cx_CS d mc ms 187 [v0] w u (cx_vr2 f X mLaw_law d mc ms K Q 389 L r)) := rfl
set_option maxRecDepth 100000 in
theorem vmLaw_law_389 (f : Nat) (X : cx_X) (d mc ms : Nat) (K : cx_K) (Q : cx_Q) (L : cx_L) (x y : Int32) (r : List Value) (w : cx_W) (u : cx_U) : cx_vc (f + 1) X mLaw_law d mc ms K Q 389 L (.int y :: .int x :: r) w u = (cx_cnd .eq x y (cx_vc f X mLaw_law d mc ms K Q 570 L r w u) (cx_vc f X mLaw_law d mc ms K Q 392 L r w u)) := rfl
set_option maxRecDepth 100000 in
theorem vmLaw_law_392 (f : Nat) (X : cx_X) (d mc ms : Nat) (K : cx_K) (Q : cx_Q) (L : cx_L) (st : List Value) (w : cx_W) (u : cx_U) : cx_vc (f + 1) X mLaw_law d mc ms K Q 392 L st w u = (cx_vc f X mLaw_law d mc ms K Q 393 L (.int 0 :: st) w u) := rfl
set_option maxRecDepth 100000 in
theorem vmLaw_law_393 (f : Nat) (X : cx_X) (d mc ms : Nat) (K : cx_K) (Q : cx_Q) (L : cx_L) (x : Int32) (w : cx_W) (u : cx_U) : cx_vc (f + 1) X mLaw_law d mc ms K Q 393 L [.int x] w u = ((x = 0 ∨ x = 1) ∧ u.2.1 = mc ∧ u.2.2 ≤ ms ∧ Q (some (.int x)) w u) := cx_ri1 _ _
set_option maxRecDepth 100000 in
theorem vmLaw_law_394 (f : Nat) (X : cx_X) (d mc ms : Nat) (K : cx_K) (Q : cx_Q) (l0 l2 l3 : Option Value) (x : Nat) (st : List Value) (w : cx_W) (u : cx_U) : cx_vc (f + 1) X mLaw_law d mc ms K Q 394 [l0, some (.ref x), l2, l3] st w u = (cx_vc f X mLaw_law d mc ms K Q 395 [l0, some (.ref x), l2, l3] (.ref x :: st) w u) := rfl
set_option maxRecDepth 100000 in
theorem vmLaw_law_395 (f : Nat) (X : cx_X) (d mc ms : Nat) (K : cx_K) (Q : cx_Q) (L : cx_L) (v0 : Value) (r : List Value) (w : cx_W) (u : cx_U) : cx_vc (f + 1) X mLaw_law d mc ms K Q 395 L (v0 :: r) w u = (cx_cs r ≤ 8 ∧ cx_rc [v0] w u.1 0 ∧ cx_CS d mc ms 11 [v0] w u (cx_vr2 f X mLaw_law d mc ms K Q 398 L r)) := rfl
set_option maxRecDepth 100000 in
theorem vmLaw_law_398 (f : Nat) (X : cx_X) (d mc ms : Nat) (K : cx_K) (Q : cx_Q) (l0 l1 l3 : Option Value) (x : Nat) (st : List Value) (w : cx_W) (u : cx_U) : cx_vc (f + 1) X mLaw_law d mc ms K Q 398 [l0, l1, some (.ref x), l3] st w u = (cx_vc f X mLaw_law d mc ms K Q 399 [l0, l1, some (.ref x), l3] (.ref x :: st) w u) := rfl
set_option maxRecDepth 100000 in
theorem vmLaw_law_399 (f : Nat) (X : cx_X) (d mc ms : Nat) (K : cx_K) (Q : cx_Q) (L : cx_L) (v0 : Value) (r : List Value) (w : cx_W) (u : cx_U) : cx_vc (f + 1) X mLaw_law d mc ms K Q 399 L (v0 :: r) w u = (cx_cs r ≤ 8 ∧ cx_rc [v0] w u.1 8 ∧ cx_CS d mc ms 188 [v0] w u (cx_vr2 f X mLaw_law d mc ms K Q 402 L r)) := rfl
set_option maxRecDepth 100000 in
theorem vmLaw_law_402 (f : Nat) (X : cx_X) (d mc ms : Nat) (K : cx_K) (Q : cx_Q) (L : cx_L) (x y : Int32) (r : List Value) (w : cx_W) (u : cx_U) : cx_vc (f + 1) X mLaw_law d mc ms K Q 402 L (.int y :: .int x :: r) w u = (cx_cnd .eq x y (cx_vc f X mLaw_law d mc ms K Q 570 L r w u) (cx_vc f X mLaw_law d mc ms K Q 405 L r w u)) := rfl
set_option maxRecDepth 100000 in
theorem vmLaw_law_405 (f : Nat) (X : cx_X) (d mc ms : Nat) (K : cx_K) (Q : cx_Q) (L : cx_L) (st : List Value) (w : cx_W) (u : cx_U) : cx_vc (f + 1) X mLaw_law d mc ms K Q 405 L st w u = (cx_vc f X mLaw_law d mc ms K Q 406 L (.int 0 :: st) w u) := rfl
set_option maxRecDepth 100000 in
theorem vmLaw_law_406 (f : Nat) (X : cx_X) (d mc ms : Nat) (K : cx_K) (Q : cx_Q) (L : cx_L) (x : Int32) (w : cx_W) (u : cx_U) : cx_vc (f + 1) X mLaw_law d mc ms K Q 406 L [.int x] w u = ((x = 0 ∨ x = 1) ∧ u.2.1 = mc ∧ u.2.2 ≤ ms ∧ Q (some (.int x)) w u) := cx_ri1 _ _
set_option maxRecDepth 100000 in
theorem vmLaw_law_407 (f : Nat) (X : cx_X) (d mc ms : Nat) (K : cx_K) (Q : cx_Q) (l0 l2 l3 : Option Value) (x : Nat) (st : List Value) (w : cx_W) (u : cx_U) : cx_vc (f + 1) X mLaw_law d mc ms K Q 407 [l0, some (.ref x), l2, l3] st w u = (cx_vc f X mLaw_law d mc ms K Q 408 [l0, some (.ref x), l2, l3] (.ref x :: st) w u) := rfl
set_option maxRecDepth 100000 in
theorem vmLaw_law_408 (f : Nat) (X : cx_X) (d mc ms : Nat) (K : cx_K) (Q : cx_Q) (l1 l2 l3 : Option Value) (x : Nat) (st : List Value) (w : cx_W) (u : cx_U) : cx_vc (f + 1) X mLaw_law d mc ms K Q 408 [some (.ref x), l1, l2, l3] st w u = (cx_vc f X mLaw_law d mc ms K Q 409 [some (.ref x), l1, l2, l3] (.ref x :: st) w u) := rfl
set_option maxRecDepth 100000 in
theorem vmLaw_law_409 (f : Nat) (X : cx_X) (d mc ms : Nat) (K : cx_K) (Q : cx_Q) (l0 l1 l2 : Option Value) (x : Int32) (st : List Value) (w : cx_W) (u : cx_U) : cx_vc (f + 1) X mLaw_law d mc ms K Q 409 [l0, l1, l2, some (.int x)] st w u = (cx_vc f X mLaw_law d mc ms K Q 410 [l0, l1, l2, some (.int x)] (.int x :: st) w u) := rfl
set_option maxRecDepth 100000 in
theorem vmLaw_law_410 (f : Nat) (X : cx_X) (d mc ms : Nat) (K : cx_K) (Q : cx_Q) (L : cx_L) (st : List Value) (w : cx_W) (u : cx_U) : cx_vc (f + 1) X mLaw_law d mc ms K Q 410 L st w u = (cx_vc f X mLaw_law d mc ms K Q 411 L (.int 1 :: st) w u) := rfl
set_option maxRecDepth 100000 in
theorem vmLaw_law_411 (f : Nat) (X : cx_X) (d mc ms : Nat) (K : cx_K) (Q : cx_Q) (L : cx_L) (x y : Int32) (r : List Value) (w : cx_W) (u : cx_U) : cx_vc (f + 1) X mLaw_law d mc ms K Q 411 L (.int y :: .int x :: r) w u = (cx_vc f X mLaw_law d mc ms K Q 412 L (.int (x + y) :: r) w u) := rfl
set_option maxRecDepth 100000 in
theorem vmLaw_law_412 (f : Nat) (X : cx_X) (d mc ms : Nat) (K : cx_K) (Q : cx_Q) (L : cx_L) (q : Nat) (j : Int32) (r : List Value) (w : cx_W) (u : cx_U) : cx_vc (f + 1) X mLaw_law d mc ms K Q 412 L (.int j :: .ref q :: r) w u = ((cx_sa X w u.1 q).isSome = true ∧ vp_in j ((cx_sa X w u.1 q).getD (0, fun _ => 0)).1 ∧ cx_vc f X mLaw_law d mc ms K Q 413 L (.int (((cx_sa X w u.1 q).getD (0, fun _ => 0)).2 j.toNatClampNeg) :: r) w u) := cx_og (cx_sa X w u.1 q) (0, fun _ => 0) fun p => vp_in j p.1 ∧ cx_vc f X mLaw_law d mc ms K Q 413 L (.int (p.2 j.toNatClampNeg) :: r) w u
set_option maxRecDepth 100000 in
theorem vmLaw_law_413 (f : Nat) (X : cx_X) (d mc ms : Nat) (K : cx_K) (Q : cx_Q) (L : cx_L) (v0 v1 : Value) (r : List Value) (w : cx_W) (u : cx_U) : cx_vc (f + 1) X mLaw_law d mc ms K Q 413 L (v1 :: v0 :: r) w u = (cx_cs r ≤ 8 ∧ cx_rc [v0, v1] w u.1 0 ∧ cx_CS d mc ms 12 [v0, v1] w u (cx_vr2 f X mLaw_law d mc ms K Q 416 L r)) := rfl
set_option maxRecDepth 100000 in
theorem vmLaw_law_416 (f : Nat) (X : cx_X) (d mc ms : Nat) (K : cx_K) (Q : cx_Q) (l0 l1 l3 : Option Value) (x : Nat) (st : List Value) (w : cx_W) (u : cx_U) : cx_vc (f + 1) X mLaw_law d mc ms K Q 416 [l0, l1, some (.ref x), l3] st w u = (cx_vc f X mLaw_law d mc ms K Q 417 [l0, l1, some (.ref x), l3] (.ref x :: st) w u) := rfl
set_option maxRecDepth 100000 in
theorem vmLaw_law_417 (f : Nat) (X : cx_X) (d mc ms : Nat) (K : cx_K) (Q : cx_Q) (l1 l2 l3 : Option Value) (x : Nat) (st : List Value) (w : cx_W) (u : cx_U) : cx_vc (f + 1) X mLaw_law d mc ms K Q 417 [some (.ref x), l1, l2, l3] st w u = (cx_vc f X mLaw_law d mc ms K Q 418 [some (.ref x), l1, l2, l3] (.ref x :: st) w u) := rfl
set_option maxRecDepth 100000 in
theorem vmLaw_law_418 (f : Nat) (X : cx_X) (d mc ms : Nat) (K : cx_K) (Q : cx_Q) (l0 l1 l2 : Option Value) (x : Int32) (st : List Value) (w : cx_W) (u : cx_U) : cx_vc (f + 1) X mLaw_law d mc ms K Q 418 [l0, l1, l2, some (.int x)] st w u = (cx_vc f X mLaw_law d mc ms K Q 419 [l0, l1, l2, some (.int x)] (.int x :: st) w u) := rfl
set_option maxRecDepth 100000 in
theorem vmLaw_law_419 (f : Nat) (X : cx_X) (d mc ms : Nat) (K : cx_K) (Q : cx_Q) (L : cx_L) (st : List Value) (w : cx_W) (u : cx_U) : cx_vc (f + 1) X mLaw_law d mc ms K Q 419 L st w u = (cx_vc f X mLaw_law d mc ms K Q 420 L (.int 1 :: st) w u) := rfl
set_option maxRecDepth 100000 in
theorem vmLaw_law_420 (f : Nat) (X : cx_X) (d mc ms : Nat) (K : cx_K) (Q : cx_Q) (L : cx_L) (x y : Int32) (r : List Value) (w : cx_W) (u : cx_U) : cx_vc (f + 1) X mLaw_law d mc ms K Q 420 L (.int y :: .int x :: r) w u = (cx_vc f X mLaw_law d mc ms K Q 421 L (.int (x + y) :: r) w u) := rfl
set_option maxRecDepth 100000 in
theorem vmLaw_law_421 (f : Nat) (X : cx_X) (d mc ms : Nat) (K : cx_K) (Q : cx_Q) (L : cx_L) (q : Nat) (j : Int32) (r : List Value) (w : cx_W) (u : cx_U) : cx_vc (f + 1) X mLaw_law d mc ms K Q 421 L (.int j :: .ref q :: r) w u = ((cx_sa X w u.1 q).isSome = true ∧ vp_in j ((cx_sa X w u.1 q).getD (0, fun _ => 0)).1 ∧ cx_vc f X mLaw_law d mc ms K Q 422 L (.int (((cx_sa X w u.1 q).getD (0, fun _ => 0)).2 j.toNatClampNeg) :: r) w u) := cx_og (cx_sa X w u.1 q) (0, fun _ => 0) fun p => vp_in j p.1 ∧ cx_vc f X mLaw_law d mc ms K Q 422 L (.int (p.2 j.toNatClampNeg) :: r) w u
set_option maxRecDepth 100000 in
theorem vmLaw_law_422 (f : Nat) (X : cx_X) (d mc ms : Nat) (K : cx_K) (Q : cx_Q) (L : cx_L) (v0 v1 : Value) (r : List Value) (w : cx_W) (u : cx_U) : cx_vc (f + 1) X mLaw_law d mc ms K Q 422 L (v1 :: v0 :: r) w u = (cx_cs r ≤ 8 ∧ cx_rc [v0, v1] w u.1 8 ∧ cx_CS d mc ms 190 [v0, v1] w u (cx_vr2 f X mLaw_law d mc ms K Q 425 L r)) := rfl
set_option maxRecDepth 100000 in
theorem vmLaw_law_425 (f : Nat) (X : cx_X) (d mc ms : Nat) (K : cx_K) (Q : cx_Q) (L : cx_L) (x y : Int32) (r : List Value) (w : cx_W) (u : cx_U) : cx_vc (f + 1) X mLaw_law d mc ms K Q 425 L (.int y :: .int x :: r) w u = (cx_cnd .eq x y (cx_vc f X mLaw_law d mc ms K Q 570 L r w u) (cx_vc f X mLaw_law d mc ms K Q 428 L r w u)) := rfl
set_option maxRecDepth 100000 in
theorem vmLaw_law_428 (f : Nat) (X : cx_X) (d mc ms : Nat) (K : cx_K) (Q : cx_Q) (L : cx_L) (st : List Value) (w : cx_W) (u : cx_U) : cx_vc (f + 1) X mLaw_law d mc ms K Q 428 L st w u = (cx_vc f X mLaw_law d mc ms K Q 429 L (.int 0 :: st) w u) := rfl
set_option maxRecDepth 100000 in
theorem vmLaw_law_429 (f : Nat) (X : cx_X) (d mc ms : Nat) (K : cx_K) (Q : cx_Q) (L : cx_L) (x : Int32) (w : cx_W) (u : cx_U) : cx_vc (f + 1) X mLaw_law d mc ms K Q 429 L [.int x] w u = ((x = 0 ∨ x = 1) ∧ u.2.1 = mc ∧ u.2.2 ≤ ms ∧ Q (some (.int x)) w u) := cx_ri1 _ _
set_option maxRecDepth 100000 in
theorem vmLaw_law_430 (f : Nat) (X : cx_X) (d mc ms : Nat) (K : cx_K) (Q : cx_Q) (l0 l2 l3 : Option Value) (x : Nat) (st : List Value) (w : cx_W) (u : cx_U) : cx_vc (f + 1) X mLaw_law d mc ms K Q 430 [l0, some (.ref x), l2, l3] st w u = (cx_vc f X mLaw_law d mc ms K Q 431 [l0, some (.ref x), l2, l3] (.ref x :: st) w u) := rfl
set_option maxRecDepth 100000 in
theorem vmLaw_law_431 (f : Nat) (X : cx_X) (d mc ms : Nat) (K : cx_K) (Q : cx_Q) (L : cx_L) (v0 : Value) (r : List Value) (w : cx_W) (u : cx_U) : cx_vc (f + 1) X mLaw_law d mc ms K Q 431 L (v0 :: r) w u = (cx_cs r ≤ 8 ∧ cx_rc [v0] w u.1 0 ∧ cx_CS d mc ms 13 [v0] w u (cx_vr2 f X mLaw_law d mc ms K Q 434 L r)) := rfl
set_option maxRecDepth 100000 in
theorem vmLaw_law_434 (f : Nat) (X : cx_X) (d mc ms : Nat) (K : cx_K) (Q : cx_Q) (l0 l1 l3 : Option Value) (x : Nat) (st : List Value) (w : cx_W) (u : cx_U) : cx_vc (f + 1) X mLaw_law d mc ms K Q 434 [l0, l1, some (.ref x), l3] st w u = (cx_vc f X mLaw_law d mc ms K Q 435 [l0, l1, some (.ref x), l3] (.ref x :: st) w u) := rfl
set_option maxRecDepth 100000 in
theorem vmLaw_law_435 (f : Nat) (X : cx_X) (d mc ms : Nat) (K : cx_K) (Q : cx_Q) (L : cx_L) (v0 : Value) (r : List Value) (w : cx_W) (u : cx_U) : cx_vc (f + 1) X mLaw_law d mc ms K Q 435 L (v0 :: r) w u = (cx_cs r ≤ 8 ∧ cx_rc [v0] w u.1 8 ∧ cx_CS d mc ms 191 [v0] w u (cx_vr2 f X mLaw_law d mc ms K Q 438 L r)) := rfl
set_option maxRecDepth 100000 in
theorem vmLaw_law_438 (f : Nat) (X : cx_X) (d mc ms : Nat) (K : cx_K) (Q : cx_Q) (L : cx_L) (x y : Int32) (r : List Value) (w : cx_W) (u : cx_U) : cx_vc (f + 1) X mLaw_law d mc ms K Q 438 L (.int y :: .int x :: r) w u = (cx_cnd .eq x y (cx_vc f X mLaw_law d mc ms K Q 570 L r w u) (cx_vc f X mLaw_law d mc ms K Q 441 L r w u)) := rfl
set_option maxRecDepth 100000 in
theorem vmLaw_law_441 (f : Nat) (X : cx_X) (d mc ms : Nat) (K : cx_K) (Q : cx_Q) (L : cx_L) (st : List Value) (w : cx_W) (u : cx_U) : cx_vc (f + 1) X mLaw_law d mc ms K Q 441 L st w u = (cx_vc f X mLaw_law d mc ms K Q 442 L (.int 0 :: st) w u) := rfl
set_option maxRecDepth 100000 in
theorem vmLaw_law_442 (f : Nat) (X : cx_X) (d mc ms : Nat) (K : cx_K) (Q : cx_Q) (L : cx_L) (x : Int32) (w : cx_W) (u : cx_U) : cx_vc (f + 1) X mLaw_law d mc ms K Q 442 L [.int x] w u = ((x = 0 ∨ x = 1) ∧ u.2.1 = mc ∧ u.2.2 ≤ ms ∧ Q (some (.int x)) w u) := cx_ri1 _ _
set_option maxRecDepth 100000 in
theorem vmLaw_law_443 (f : Nat) (X : cx_X) (d mc ms : Nat) (K : cx_K) (Q : cx_Q) (l0 l2 l3 : Option Value) (x : Nat) (st : List Value) (w : cx_W) (u : cx_U) : cx_vc (f + 1) X mLaw_law d mc ms K Q 443 [l0, some (.ref x), l2, l3] st w u = (cx_vc f X mLaw_law d mc ms K Q 444 [l0, some (.ref x), l2, l3] (.ref x :: st) w u) := rfl
set_option maxRecDepth 100000 in
theorem vmLaw_law_444 (f : Nat) (X : cx_X) (d mc ms : Nat) (K : cx_K) (Q : cx_Q) (L : cx_L) (v0 : Value) (r : List Value) (w : cx_W) (u : cx_U) : cx_vc (f + 1) X mLaw_law d mc ms K Q 444 L (v0 :: r) w u = (cx_cs r ≤ 8 ∧ cx_rc [v0] w u.1 0 ∧ cx_CS d mc ms 14 [v0] w u (cx_vr2 f X mLaw_law d mc ms K Q 447 L r)) := rfl
set_option maxRecDepth 100000 in
theorem vmLaw_law_447 (f : Nat) (X : cx_X) (d mc ms : Nat) (K : cx_K) (Q : cx_Q) (l0 l1 l3 : Option Value) (x : Nat) (st : List Value) (w : cx_W) (u : cx_U) : cx_vc (f + 1) X mLaw_law d mc ms K Q 447 [l0, l1, some (.ref x), l3] st w u = (cx_vc f X mLaw_law d mc ms K Q 448 [l0, l1, some (.ref x), l3] (.ref x :: st) w u) := rfl
set_option maxRecDepth 100000 in
theorem vmLaw_law_448 (f : Nat) (X : cx_X) (d mc ms : Nat) (K : cx_K) (Q : cx_Q) (L : cx_L) (v0 : Value) (r : List Value) (w : cx_W) (u : cx_U) : cx_vc (f + 1) X mLaw_law d mc ms K Q 448 L (v0 :: r) w u = (cx_cs r ≤ 8 ∧ cx_rc [v0] w u.1 8 ∧ cx_CS d mc ms 192 [v0] w u (cx_vr2 f X mLaw_law d mc ms K Q 451 L r)) := rfl
set_option maxRecDepth 100000 in
theorem vmLaw_law_451 (f : Nat) (X : cx_X) (d mc ms : Nat) (K : cx_K) (Q : cx_Q) (L : cx_L) (x y : Int32) (r : List Value) (w : cx_W) (u : cx_U) : cx_vc (f + 1) X mLaw_law d mc ms K Q 451 L (.int y :: .int x :: r) w u = (cx_cnd .eq x y (cx_vc f X mLaw_law d mc ms K Q 570 L r w u) (cx_vc f X mLaw_law d mc ms K Q 454 L r w u)) := rfl
set_option maxRecDepth 100000 in
theorem vmLaw_law_454 (f : Nat) (X : cx_X) (d mc ms : Nat) (K : cx_K) (Q : cx_Q) (L : cx_L) (st : List Value) (w : cx_W) (u : cx_U) : cx_vc (f + 1) X mLaw_law d mc ms K Q 454 L st w u = (cx_vc f X mLaw_law d mc ms K Q 455 L (.int 0 :: st) w u) := rfl
set_option maxRecDepth 100000 in
theorem vmLaw_law_455 (f : Nat) (X : cx_X) (d mc ms : Nat) (K : cx_K) (Q : cx_Q) (L : cx_L) (x : Int32) (w : cx_W) (u : cx_U) : cx_vc (f + 1) X mLaw_law d mc ms K Q 455 L [.int x] w u = ((x = 0 ∨ x = 1) ∧ u.2.1 = mc ∧ u.2.2 ≤ ms ∧ Q (some (.int x)) w u) := cx_ri1 _ _
set_option maxRecDepth 100000 in
theorem vmLaw_law_456 (f : Nat) (X : cx_X) (d mc ms : Nat) (K : cx_K) (Q : cx_Q) (l0 l2 l3 : Option Value) (x : Nat) (st : List Value) (w : cx_W) (u : cx_U) : cx_vc (f + 1) X mLaw_law d mc ms K Q 456 [l0, some (.ref x), l2, l3] st w u = (cx_vc f X mLaw_law d mc ms K Q 457 [l0, some (.ref x), l2, l3] (.ref x :: st) w u) := rfl
set_option maxRecDepth 100000 in
theorem vmLaw_law_457 (f : Nat) (X : cx_X) (d mc ms : Nat) (K : cx_K) (Q : cx_Q) (l1 l2 l3 : Option Value) (x : Nat) (st : List Value) (w : cx_W) (u : cx_U) : cx_vc (f + 1) X mLaw_law d mc ms K Q 457 [some (.ref x), l1, l2, l3] st w u = (cx_vc f X mLaw_law d mc ms K Q 458 [some (.ref x), l1, l2, l3] (.ref x :: st) w u) := rfl
set_option maxRecDepth 100000 in
theorem vmLaw_law_458 (f : Nat) (X : cx_X) (d mc ms : Nat) (K : cx_K) (Q : cx_Q) (l0 l1 l2 : Option Value) (x : Int32) (st : List Value) (w : cx_W) (u : cx_U) : cx_vc (f + 1) X mLaw_law d mc ms K Q 458 [l0, l1, l2, some (.int x)] st w u = (cx_vc f X mLaw_law d mc ms K Q 459 [l0, l1, l2, some (.int x)] (.int x :: st) w u) := rfl
set_option maxRecDepth 100000 in
theorem vmLaw_law_459 (f : Nat) (X : cx_X) (d mc ms : Nat) (K : cx_K) (Q : cx_Q) (L : cx_L) (st : List Value) (w : cx_W) (u : cx_U) : cx_vc (f + 1) X mLaw_law d mc ms K Q 459 L st w u = (cx_vc f X mLaw_law d mc ms K Q 460 L (.int 1 :: st) w u) := rfl
set_option maxRecDepth 100000 in
theorem vmLaw_law_460 (f : Nat) (X : cx_X) (d mc ms : Nat) (K : cx_K) (Q : cx_Q) (L : cx_L) (x y : Int32) (r : List Value) (w : cx_W) (u : cx_U) : cx_vc (f + 1) X mLaw_law d mc ms K Q 460 L (.int y :: .int x :: r) w u = (cx_vc f X mLaw_law d mc ms K Q 461 L (.int (x + y) :: r) w u) := rfl
set_option maxRecDepth 100000 in
theorem vmLaw_law_461 (f : Nat) (X : cx_X) (d mc ms : Nat) (K : cx_K) (Q : cx_Q) (L : cx_L) (q : Nat) (j : Int32) (r : List Value) (w : cx_W) (u : cx_U) : cx_vc (f + 1) X mLaw_law d mc ms K Q 461 L (.int j :: .ref q :: r) w u = ((cx_sa X w u.1 q).isSome = true ∧ vp_in j ((cx_sa X w u.1 q).getD (0, fun _ => 0)).1 ∧ cx_vc f X mLaw_law d mc ms K Q 462 L (.int (((cx_sa X w u.1 q).getD (0, fun _ => 0)).2 j.toNatClampNeg) :: r) w u) := cx_og (cx_sa X w u.1 q) (0, fun _ => 0) fun p => vp_in j p.1 ∧ cx_vc f X mLaw_law d mc ms K Q 462 L (.int (p.2 j.toNatClampNeg) :: r) w u
set_option maxRecDepth 100000 in
theorem vmLaw_law_462 (f : Nat) (X : cx_X) (d mc ms : Nat) (K : cx_K) (Q : cx_Q) (L : cx_L) (v0 v1 : Value) (r : List Value) (w : cx_W) (u : cx_U) : cx_vc (f + 1) X mLaw_law d mc ms K Q 462 L (v1 :: v0 :: r) w u = (cx_cs r ≤ 8 ∧ cx_rc [v0, v1] w u.1 0 ∧ cx_CS d mc ms 15 [v0, v1] w u (cx_vr2 f X mLaw_law d mc ms K Q 465 L r)) := rfl
set_option maxRecDepth 100000 in
theorem vmLaw_law_465 (f : Nat) (X : cx_X) (d mc ms : Nat) (K : cx_K) (Q : cx_Q) (l0 l1 l3 : Option Value) (x : Nat) (st : List Value) (w : cx_W) (u : cx_U) : cx_vc (f + 1) X mLaw_law d mc ms K Q 465 [l0, l1, some (.ref x), l3] st w u = (cx_vc f X mLaw_law d mc ms K Q 466 [l0, l1, some (.ref x), l3] (.ref x :: st) w u) := rfl
set_option maxRecDepth 100000 in
theorem vmLaw_law_466 (f : Nat) (X : cx_X) (d mc ms : Nat) (K : cx_K) (Q : cx_Q) (l1 l2 l3 : Option Value) (x : Nat) (st : List Value) (w : cx_W) (u : cx_U) : cx_vc (f + 1) X mLaw_law d mc ms K Q 466 [some (.ref x), l1, l2, l3] st w u = (cx_vc f X mLaw_law d mc ms K Q 467 [some (.ref x), l1, l2, l3] (.ref x :: st) w u) := rfl
set_option maxRecDepth 100000 in
theorem vmLaw_law_467 (f : Nat) (X : cx_X) (d mc ms : Nat) (K : cx_K) (Q : cx_Q) (l0 l1 l2 : Option Value) (x : Int32) (st : List Value) (w : cx_W) (u : cx_U) : cx_vc (f + 1) X mLaw_law d mc ms K Q 467 [l0, l1, l2, some (.int x)] st w u = (cx_vc f X mLaw_law d mc ms K Q 468 [l0, l1, l2, some (.int x)] (.int x :: st) w u) := rfl
set_option maxRecDepth 100000 in
theorem vmLaw_law_468 (f : Nat) (X : cx_X) (d mc ms : Nat) (K : cx_K) (Q : cx_Q) (L : cx_L) (st : List Value) (w : cx_W) (u : cx_U) : cx_vc (f + 1) X mLaw_law d mc ms K Q 468 L st w u = (cx_vc f X mLaw_law d mc ms K Q 469 L (.int 1 :: st) w u) := rfl
set_option maxRecDepth 100000 in
theorem vmLaw_law_469 (f : Nat) (X : cx_X) (d mc ms : Nat) (K : cx_K) (Q : cx_Q) (L : cx_L) (x y : Int32) (r : List Value) (w : cx_W) (u : cx_U) : cx_vc (f + 1) X mLaw_law d mc ms K Q 469 L (.int y :: .int x :: r) w u = (cx_vc f X mLaw_law d mc ms K Q 470 L (.int (x + y) :: r) w u) := rfl
set_option maxRecDepth 100000 in
theorem vmLaw_law_470 (f : Nat) (X : cx_X) (d mc ms : Nat) (K : cx_K) (Q : cx_Q) (L : cx_L) (q : Nat) (j : Int32) (r : List Value) (w : cx_W) (u : cx_U) : cx_vc (f + 1) X mLaw_law d mc ms K Q 470 L (.int j :: .ref q :: r) w u = ((cx_sa X w u.1 q).isSome = true ∧ vp_in j ((cx_sa X w u.1 q).getD (0, fun _ => 0)).1 ∧ cx_vc f X mLaw_law d mc ms K Q 471 L (.int (((cx_sa X w u.1 q).getD (0, fun _ => 0)).2 j.toNatClampNeg) :: r) w u) := cx_og (cx_sa X w u.1 q) (0, fun _ => 0) fun p => vp_in j p.1 ∧ cx_vc f X mLaw_law d mc ms K Q 471 L (.int (p.2 j.toNatClampNeg) :: r) w u
set_option maxRecDepth 100000 in
theorem vmLaw_law_471 (f : Nat) (X : cx_X) (d mc ms : Nat) (K : cx_K) (Q : cx_Q) (L : cx_L) (v0 v1 : Value) (r : List Value) (w : cx_W) (u : cx_U) : cx_vc (f + 1) X mLaw_law d mc ms K Q 471 L (v1 :: v0 :: r) w u = (cx_cs r ≤ 8 ∧ cx_rc [v0, v1] w u.1 8 ∧ cx_CS d mc ms 193 [v0, v1] w u (cx_vr2 f X mLaw_law d mc ms K Q 474 L r)) := rfl
set_option maxRecDepth 100000 in
theorem vmLaw_law_474 (f : Nat) (X : cx_X) (d mc ms : Nat) (K : cx_K) (Q : cx_Q) (L : cx_L) (x y : Int32) (r : List Value) (w : cx_W) (u : cx_U) : cx_vc (f + 1) X mLaw_law d mc ms K Q 474 L (.int y :: .int x :: r) w u = (cx_cnd .eq x y (cx_vc f X mLaw_law d mc ms K Q 570 L r w u) (cx_vc f X mLaw_law d mc ms K Q 477 L r w u)) := rfl
set_option maxRecDepth 100000 in
theorem vmLaw_law_477 (f : Nat) (X : cx_X) (d mc ms : Nat) (K : cx_K) (Q : cx_Q) (L : cx_L) (st : List Value) (w : cx_W) (u : cx_U) : cx_vc (f + 1) X mLaw_law d mc ms K Q 477 L st w u = (cx_vc f X mLaw_law d mc ms K Q 478 L (.int 0 :: st) w u) := rfl
set_option maxRecDepth 100000 in
theorem vmLaw_law_478 (f : Nat) (X : cx_X) (d mc ms : Nat) (K : cx_K) (Q : cx_Q) (L : cx_L) (x : Int32) (w : cx_W) (u : cx_U) : cx_vc (f + 1) X mLaw_law d mc ms K Q 478 L [.int x] w u = ((x = 0 ∨ x = 1) ∧ u.2.1 = mc ∧ u.2.2 ≤ ms ∧ Q (some (.int x)) w u) := cx_ri1 _ _
set_option maxRecDepth 100000 in
theorem vmLaw_law_479 (f : Nat) (X : cx_X) (d mc ms : Nat) (K : cx_K) (Q : cx_Q) (l0 l2 l3 : Option Value) (x : Nat) (st : List Value) (w : cx_W) (u : cx_U) : cx_vc (f + 1) X mLaw_law d mc ms K Q 479 [l0, some (.ref x), l2, l3] st w u = (cx_vc f X mLaw_law d mc ms K Q 480 [l0, some (.ref x), l2, l3] (.ref x :: st) w u) := rfl
set_option maxRecDepth 100000 in
theorem vmLaw_law_480 (f : Nat) (X : cx_X) (d mc ms : Nat) (K : cx_K) (Q : cx_Q) (l1 l2 l3 : Option Value) (x : Nat) (st : List Value) (w : cx_W) (u : cx_U) : cx_vc (f + 1) X mLaw_law d mc ms K Q 480 [some (.ref x), l1, l2, l3] st w u = (cx_vc f X mLaw_law d mc ms K Q 481 [some (.ref x), l1, l2, l3] (.ref x :: st) w u) := rfl
set_option maxRecDepth 100000 in
theorem vmLaw_law_481 (f : Nat) (X : cx_X) (d mc ms : Nat) (K : cx_K) (Q : cx_Q) (l0 l1 l2 : Option Value) (x : Int32) (st : List Value) (w : cx_W) (u : cx_U) : cx_vc (f + 1) X mLaw_law d mc ms K Q 481 [l0, l1, l2, some (.int x)] st w u = (cx_vc f X mLaw_law d mc ms K Q 482 [l0, l1, l2, some (.int x)] (.int x :: st) w u) := rfl
set_option maxRecDepth 100000 in
theorem vmLaw_law_482 (f : Nat) (X : cx_X) (d mc ms : Nat) (K : cx_K) (Q : cx_Q) (L : cx_L) (st : List Value) (w : cx_W) (u : cx_U) : cx_vc (f + 1) X mLaw_law d mc ms K Q 482 L st w u = (cx_vc f X mLaw_law d mc ms K Q 483 L (.int 1 :: st) w u) := rfl
set_option maxRecDepth 100000 in
theorem vmLaw_law_483 (f : Nat) (X : cx_X) (d mc ms : Nat) (K : cx_K) (Q : cx_Q) (L : cx_L) (x y : Int32) (r : List Value) (w : cx_W) (u : cx_U) : cx_vc (f + 1) X mLaw_law d mc ms K Q 483 L (.int y :: .int x :: r) w u = (cx_vc f X mLaw_law d mc ms K Q 484 L (.int (x + y) :: r) w u) := rfl
set_option maxRecDepth 100000 in
theorem vmLaw_law_484 (f : Nat) (X : cx_X) (d mc ms : Nat) (K : cx_K) (Q : cx_Q) (L : cx_L) (q : Nat) (j : Int32) (r : List Value) (w : cx_W) (u : cx_U) : cx_vc (f + 1) X mLaw_law d mc ms K Q 484 L (.int j :: .ref q :: r) w u = ((cx_sa X w u.1 q).isSome = true ∧ vp_in j ((cx_sa X w u.1 q).getD (0, fun _ => 0)).1 ∧ cx_vc f X mLaw_law d mc ms K Q 485 L (.int (((cx_sa X w u.1 q).getD (0, fun _ => 0)).2 j.toNatClampNeg) :: r) w u) := cx_og (cx_sa X w u.1 q) (0, fun _ => 0) fun p => vp_in j p.1 ∧ cx_vc f X mLaw_law d mc ms K Q 485 L (.int (p.2 j.toNatClampNeg) :: r) w u
set_option maxRecDepth 100000 in
theorem vmLaw_law_485 (f : Nat) (X : cx_X) (d mc ms : Nat) (K : cx_K) (Q : cx_Q) (l1 l2 l3 : Option Value) (x : Nat) (st : List Value) (w : cx_W) (u : cx_U) : cx_vc (f + 1) X mLaw_law d mc ms K Q 485 [some (.ref x), l1, l2, l3] st w u = (cx_vc f X mLaw_law d mc ms K Q 486 [some (.ref x), l1, l2, l3] (.ref x :: st) w u) := rfl
set_option maxRecDepth 100000 in
theorem vmLaw_law_486 (f : Nat) (X : cx_X) (d mc ms : Nat) (K : cx_K) (Q : cx_Q) (l0 l1 l2 : Option Value) (x : Int32) (st : List Value) (w : cx_W) (u : cx_U) : cx_vc (f + 1) X mLaw_law d mc ms K Q 486 [l0, l1, l2, some (.int x)] st w u = (cx_vc f X mLaw_law d mc ms K Q 487 [l0, l1, l2, some (.int x)] (.int x :: st) w u) := rfl
set_option maxRecDepth 100000 in
theorem vmLaw_law_487 (f : Nat) (X : cx_X) (d mc ms : Nat) (K : cx_K) (Q : cx_Q) (L : cx_L) (st : List Value) (w : cx_W) (u : cx_U) : cx_vc (f + 1) X mLaw_law d mc ms K Q 487 L st w u = (cx_vc f X mLaw_law d mc ms K Q 488 L (.int 2 :: st) w u) := rfl
set_option maxRecDepth 100000 in
theorem vmLaw_law_488 (f : Nat) (X : cx_X) (d mc ms : Nat) (K : cx_K) (Q : cx_Q) (L : cx_L) (x y : Int32) (r : List Value) (w : cx_W) (u : cx_U) : cx_vc (f + 1) X mLaw_law d mc ms K Q 488 L (.int y :: .int x :: r) w u = (cx_vc f X mLaw_law d mc ms K Q 489 L (.int (x + y) :: r) w u) := rfl
set_option maxRecDepth 100000 in
theorem vmLaw_law_489 (f : Nat) (X : cx_X) (d mc ms : Nat) (K : cx_K) (Q : cx_Q) (L : cx_L) (q : Nat) (j : Int32) (r : List Value) (w : cx_W) (u : cx_U) : cx_vc (f + 1) X mLaw_law d mc ms K Q 489 L (.int j :: .ref q :: r) w u = ((cx_sa X w u.1 q).isSome = true ∧ vp_in j ((cx_sa X w u.1 q).getD (0, fun _ => 0)).1 ∧ cx_vc f X mLaw_law d mc ms K Q 490 L (.int (((cx_sa X w u.1 q).getD (0, fun _ => 0)).2 j.toNatClampNeg) :: r) w u) := cx_og (cx_sa X w u.1 q) (0, fun _ => 0) fun p => vp_in j p.1 ∧ cx_vc f X mLaw_law d mc ms K Q 490 L (.int (p.2 j.toNatClampNeg) :: r) w u
set_option maxRecDepth 100000 in
theorem vmLaw_law_490 (f : Nat) (X : cx_X) (d mc ms : Nat) (K : cx_K) (Q : cx_Q) (L : cx_L) (v0 v1 v2 : Value) (r : List Value) (w : cx_W) (u : cx_U) : cx_vc (f + 1) X mLaw_law d mc ms K Q 490 L (v2 :: v1 :: v0 :: r) w u = (cx_cs r ≤ 8 ∧ cx_rc [v0, v1, v2] w u.1 0 ∧ cx_CS d mc ms 16 [v0, v1, v2] w u (cx_vr2 f X mLaw_law d mc ms K Q 493 L r)) := rfl
set_option maxRecDepth 100000 in
theorem vmLaw_law_493 (f : Nat) (X : cx_X) (d mc ms : Nat) (K : cx_K) (Q : cx_Q) (l0 l1 l3 : Option Value) (x : Nat) (st : List Value) (w : cx_W) (u : cx_U) : cx_vc (f + 1) X mLaw_law d mc ms K Q 493 [l0, l1, some (.ref x), l3] st w u = (cx_vc f X mLaw_law d mc ms K Q 494 [l0, l1, some (.ref x), l3] (.ref x :: st) w u) := rfl
set_option maxRecDepth 100000 in
theorem vmLaw_law_494 (f : Nat) (X : cx_X) (d mc ms : Nat) (K : cx_K) (Q : cx_Q) (l1 l2 l3 : Option Value) (x : Nat) (st : List Value) (w : cx_W) (u : cx_U) : cx_vc (f + 1) X mLaw_law d mc ms K Q 494 [some (.ref x), l1, l2, l3] st w u = (cx_vc f X mLaw_law d mc ms K Q 495 [some (.ref x), l1, l2, l3] (.ref x :: st) w u) := rfl
set_option maxRecDepth 100000 in
theorem vmLaw_law_495 (f : Nat) (X : cx_X) (d mc ms : Nat) (K : cx_K) (Q : cx_Q) (l0 l1 l2 : Option Value) (x : Int32) (st : List Value) (w : cx_W) (u : cx_U) : cx_vc (f + 1) X mLaw_law d mc ms K Q 495 [l0, l1, l2, some (.int x)] st w u = (cx_vc f X mLaw_law d mc ms K Q 496 [l0, l1, l2, some (.int x)] (.int x :: st) w u) := rfl
set_option maxRecDepth 100000 in
theorem vmLaw_law_496 (f : Nat) (X : cx_X) (d mc ms : Nat) (K : cx_K) (Q : cx_Q) (L : cx_L) (st : List Value) (w : cx_W) (u : cx_U) : cx_vc (f + 1) X mLaw_law d mc ms K Q 496 L st w u = (cx_vc f X mLaw_law d mc ms K Q 497 L (.int 1 :: st) w u) := rfl
set_option maxRecDepth 100000 in
theorem vmLaw_law_497 (f : Nat) (X : cx_X) (d mc ms : Nat) (K : cx_K) (Q : cx_Q) (L : cx_L) (x y : Int32) (r : List Value) (w : cx_W) (u : cx_U) : cx_vc (f + 1) X mLaw_law d mc ms K Q 497 L (.int y :: .int x :: r) w u = (cx_vc f X mLaw_law d mc ms K Q 498 L (.int (x + y) :: r) w u) := rfl
set_option maxRecDepth 100000 in
theorem vmLaw_law_498 (f : Nat) (X : cx_X) (d mc ms : Nat) (K : cx_K) (Q : cx_Q) (L : cx_L) (q : Nat) (j : Int32) (r : List Value) (w : cx_W) (u : cx_U) : cx_vc (f + 1) X mLaw_law d mc ms K Q 498 L (.int j :: .ref q :: r) w u = ((cx_sa X w u.1 q).isSome = true ∧ vp_in j ((cx_sa X w u.1 q).getD (0, fun _ => 0)).1 ∧ cx_vc f X mLaw_law d mc ms K Q 499 L (.int (((cx_sa X w u.1 q).getD (0, fun _ => 0)).2 j.toNatClampNeg) :: r) w u) := cx_og (cx_sa X w u.1 q) (0, fun _ => 0) fun p => vp_in j p.1 ∧ cx_vc f X mLaw_law d mc ms K Q 499 L (.int (p.2 j.toNatClampNeg) :: r) w u
set_option maxRecDepth 100000 in
theorem vmLaw_law_499 (f : Nat) (X : cx_X) (d mc ms : Nat) (K : cx_K) (Q : cx_Q) (l1 l2 l3 : Option Value) (x : Nat) (st : List Value) (w : cx_W) (u : cx_U) : cx_vc (f + 1) X mLaw_law d mc ms K Q 499 [some (.ref x), l1, l2, l3] st w u = (cx_vc f X mLaw_law d mc ms K Q 500 [some (.ref x), l1, l2, l3] (.ref x :: st) w u) := rfl
set_option maxRecDepth 100000 in
theorem vmLaw_law_500 (f : Nat) (X : cx_X) (d mc ms : Nat) (K : cx_K) (Q : cx_Q) (l0 l1 l2 : Option Value) (x : Int32) (st : List Value) (w : cx_W) (u : cx_U) : cx_vc (f + 1) X mLaw_law d mc ms K Q 500 [l0, l1, l2, some (.int x)] st w u = (cx_vc f X mLaw_law d mc ms K Q 501 [l0, l1, l2, some (.int x)] (.int x :: st) w u) := rfl
set_option maxRecDepth 100000 in
theorem vmLaw_law_501 (f : Nat) (X : cx_X) (d mc ms : Nat) (K : cx_K) (Q : cx_Q) (L : cx_L) (st : List Value) (w : cx_W) (u : cx_U) : cx_vc (f + 1) X mLaw_law d mc ms K Q 501 L st w u = (cx_vc f X mLaw_law d mc ms K Q 502 L (.int 2 :: st) w u) := rfl
set_option maxRecDepth 100000 in
theorem vmLaw_law_502 (f : Nat) (X : cx_X) (d mc ms : Nat) (K : cx_K) (Q : cx_Q) (L : cx_L) (x y : Int32) (r : List Value) (w : cx_W) (u : cx_U) : cx_vc (f + 1) X mLaw_law d mc ms K Q 502 L (.int y :: .int x :: r) w u = (cx_vc f X mLaw_law d mc ms K Q 503 L (.int (x + y) :: r) w u) := rfl
set_option maxRecDepth 100000 in
theorem vmLaw_law_503 (f : Nat) (X : cx_X) (d mc ms : Nat) (K : cx_K) (Q : cx_Q) (L : cx_L) (q : Nat) (j : Int32) (r : List Value) (w : cx_W) (u : cx_U) : cx_vc (f + 1) X mLaw_law d mc ms K Q 503 L (.int j :: .ref q :: r) w u = ((cx_sa X w u.1 q).isSome = true ∧ vp_in j ((cx_sa X w u.1 q).getD (0, fun _ => 0)).1 ∧ cx_vc f X mLaw_law d mc ms K Q 504 L (.int (((cx_sa X w u.1 q).getD (0, fun _ => 0)).2 j.toNatClampNeg) :: r) w u) := cx_og (cx_sa X w u.1 q) (0, fun _ => 0) fun p => vp_in j p.1 ∧ cx_vc f X mLaw_law d mc ms K Q 504 L (.int (p.2 j.toNatClampNeg) :: r) w u
set_option maxRecDepth 100000 in
theorem vmLaw_law_504 (f : Nat) (X : cx_X) (d mc ms : Nat) (K : cx_K) (Q : cx_Q) (L : cx_L) (v0 v1 v2 : Value) (r : List Value) (w : cx_W) (u : cx_U) : cx_vc (f + 1) X mLaw_law d mc ms K Q 504 L (v2 :: v1 :: v0 :: r) w u = (cx_cs r ≤ 8 ∧ cx_rc [v0, v1, v2] w u.1 8 ∧ cx_CS d mc ms 194 [v0, v1, v2] w u (cx_vr2 f X mLaw_law d mc ms K Q 507 L r)) := rfl
set_option maxRecDepth 100000 in
theorem vmLaw_law_507 (f : Nat) (X : cx_X) (d mc ms : Nat) (K : cx_K) (Q : cx_Q) (L : cx_L) (x y : Int64) (r : List Value) (w : cx_W) (u : cx_U) : cx_vc (f + 1) X mLaw_law d mc ms K Q 507 L (.long y :: .long x :: r) w u = (cx_vc f X mLaw_law d mc ms K Q 508 L (.int (lg_cmp x y) :: r) w u) := rfl
set_option maxRecDepth 100000 in
theorem vmLaw_law_508 (f : Nat) (X : cx_X) (d mc ms : Nat) (K : cx_K) (Q : cx_Q) (L : cx_L) (x : Int32) (r : List Value) (w : cx_W) (u : cx_U) : cx_vc (f + 1) X mLaw_law d mc ms K Q 508 L (.int x :: r) w u = (cx_cnd .eq x 0 (cx_vc f X mLaw_law d mc ms K Q 570 L r w u) (cx_vc f X mLaw_law d mc ms K Q 511 L r w u)) := rfl
set_option maxRecDepth 100000 in
theorem vmLaw_law_511 (f : Nat) (X : cx_X) (d mc ms : Nat) (K : cx_K) (Q : cx_Q) (L : cx_L) (st : List Value) (w : cx_W) (u : cx_U) : cx_vc (f + 1) X mLaw_law d mc ms K Q 511 L st w u = (cx_vc f X mLaw_law d mc ms K Q 512 L (.int 0 :: st) w u) := rfl
set_option maxRecDepth 100000 in
theorem vmLaw_law_512 (f : Nat) (X : cx_X) (d mc ms : Nat) (K : cx_K) (Q : cx_Q) (L : cx_L) (x : Int32) (w : cx_W) (u : cx_U) : cx_vc (f + 1) X mLaw_law d mc ms K Q 512 L [.int x] w u = ((x = 0 ∨ x = 1) ∧ u.2.1 = mc ∧ u.2.2 ≤ ms ∧ Q (some (.int x)) w u) := cx_ri1 _ _
set_option maxRecDepth 100000 in
theorem vmLaw_law_513 (f : Nat) (X : cx_X) (d mc ms : Nat) (K : cx_K) (Q : cx_Q) (l0 l2 l3 : Option Value) (x : Nat) (st : List Value) (w : cx_W) (u : cx_U) : cx_vc (f + 1) X mLaw_law d mc ms K Q 513 [l0, some (.ref x), l2, l3] st w u = (cx_vc f X mLaw_law d mc ms K Q 514 [l0, some (.ref x), l2, l3] (.ref x :: st) w u) := rfl
set_option maxRecDepth 100000 in
theorem vmLaw_law_514 (f : Nat) (X : cx_X) (d mc ms : Nat) (K : cx_K) (Q : cx_Q) (l1 l2 l3 : Option Value) (x : Nat) (st : List Value) (w : cx_W) (u : cx_U) : cx_vc (f + 1) X mLaw_law d mc ms K Q 514 [some (.ref x), l1, l2, l3] st w u = (cx_vc f X mLaw_law d mc ms K Q 515 [some (.ref x), l1, l2, l3] (.ref x :: st) w u) := rfl
set_option maxRecDepth 100000 in
theorem vmLaw_law_515 (f : Nat) (X : cx_X) (d mc ms : Nat) (K : cx_K) (Q : cx_Q) (l0 l1 l2 : Option Value) (x : Int32) (st : List Value) (w : cx_W) (u : cx_U) : cx_vc (f + 1) X mLaw_law d mc ms K Q 515 [l0, l1, l2, some (.int x)] st w u = (cx_vc f X mLaw_law d mc ms K Q 516 [l0, l1, l2, some (.int x)] (.int x :: st) w u) := rfl
set_option maxRecDepth 100000 in
theorem vmLaw_law_516 (f : Nat) (X : cx_X) (d mc ms : Nat) (K : cx_K) (Q : cx_Q) (L : cx_L) (st : List Value) (w : cx_W) (u : cx_U) : cx_vc (f + 1) X mLaw_law d mc ms K Q 516 L st w u = (cx_vc f X mLaw_law d mc ms K Q 517 L (.int 1 :: st) w u) := rfl
set_option maxRecDepth 100000 in
theorem vmLaw_law_517 (f : Nat) (X : cx_X) (d mc ms : Nat) (K : cx_K) (Q : cx_Q) (L : cx_L) (x y : Int32) (r : List Value) (w : cx_W) (u : cx_U) : cx_vc (f + 1) X mLaw_law d mc ms K Q 517 L (.int y :: .int x :: r) w u = (cx_vc f X mLaw_law d mc ms K Q 518 L (.int (x + y) :: r) w u) := rfl
set_option maxRecDepth 100000 in
theorem vmLaw_law_518 (f : Nat) (X : cx_X) (d mc ms : Nat) (K : cx_K) (Q : cx_Q) (L : cx_L) (q : Nat) (j : Int32) (r : List Value) (w : cx_W) (u : cx_U) : cx_vc (f + 1) X mLaw_law d mc ms K Q 518 L (.int j :: .ref q :: r) w u = ((cx_sa X w u.1 q).isSome = true ∧ vp_in j ((cx_sa X w u.1 q).getD (0, fun _ => 0)).1 ∧ cx_vc f X mLaw_law d mc ms K Q 519 L (.int (((cx_sa X w u.1 q).getD (0, fun _ => 0)).2 j.toNatClampNeg) :: r) w u) := cx_og (cx_sa X w u.1 q) (0, fun _ => 0) fun p => vp_in j p.1 ∧ cx_vc f X mLaw_law d mc ms K Q 519 L (.int (p.2 j.toNatClampNeg) :: r) w u
set_option maxRecDepth 100000 in
theorem vmLaw_law_519 (f : Nat) (X : cx_X) (d mc ms : Nat) (K : cx_K) (Q : cx_Q) (L : cx_L) (v0 v1 : Value) (r : List Value) (w : cx_W) (u : cx_U) : cx_vc (f + 1) X mLaw_law d mc ms K Q 519 L (v1 :: v0 :: r) w u = (cx_cs r ≤ 8 ∧ cx_rc [v0, v1] w u.1 0 ∧ cx_CS d mc ms 17 [v0, v1] w u (cx_vr2 f X mLaw_law d mc ms K Q 522 L r)) := rfl
set_option maxRecDepth 100000 in
theorem vmLaw_law_522 (f : Nat) (X : cx_X) (d mc ms : Nat) (K : cx_K) (Q : cx_Q) (l0 l1 l3 : Option Value) (x : Nat) (st : List Value) (w : cx_W) (u : cx_U) : cx_vc (f + 1) X mLaw_law d mc ms K Q 522 [l0, l1, some (.ref x), l3] st w u = (cx_vc f X mLaw_law d mc ms K Q 523 [l0, l1, some (.ref x), l3] (.ref x :: st) w u) := rfl
set_option maxRecDepth 100000 in
theorem vmLaw_law_523 (f : Nat) (X : cx_X) (d mc ms : Nat) (K : cx_K) (Q : cx_Q) (l1 l2 l3 : Option Value) (x : Nat) (st : List Value) (w : cx_W) (u : cx_U) : cx_vc (f + 1) X mLaw_law d mc ms K Q 523 [some (.ref x), l1, l2, l3] st w u = (cx_vc f X mLaw_law d mc ms K Q 524 [some (.ref x), l1, l2, l3] (.ref x :: st) w u) := rfl
set_option maxRecDepth 100000 in
theorem vmLaw_law_524 (f : Nat) (X : cx_X) (d mc ms : Nat) (K : cx_K) (Q : cx_Q) (l0 l1 l2 : Option Value) (x : Int32) (st : List Value) (w : cx_W) (u : cx_U) : cx_vc (f + 1) X mLaw_law d mc ms K Q 524 [l0, l1, l2, some (.int x)] st w u = (cx_vc f X mLaw_law d mc ms K Q 525 [l0, l1, l2, some (.int x)] (.int x :: st) w u) := rfl
set_option maxRecDepth 100000 in
theorem vmLaw_law_525 (f : Nat) (X : cx_X) (d mc ms : Nat) (K : cx_K) (Q : cx_Q) (L : cx_L) (st : List Value) (w : cx_W) (u : cx_U) : cx_vc (f + 1) X mLaw_law d mc ms K Q 525 L st w u = (cx_vc f X mLaw_law d mc ms K Q 526 L (.int 1 :: st) w u) := rfl
set_option maxRecDepth 100000 in
theorem vmLaw_law_526 (f : Nat) (X : cx_X) (d mc ms : Nat) (K : cx_K) (Q : cx_Q) (L : cx_L) (x y : Int32) (r : List Value) (w : cx_W) (u : cx_U) : cx_vc (f + 1) X mLaw_law d mc ms K Q 526 L (.int y :: .int x :: r) w u = (cx_vc f X mLaw_law d mc ms K Q 527 L (.int (x + y) :: r) w u) := rfl
set_option maxRecDepth 100000 in
theorem vmLaw_law_527 (f : Nat) (X : cx_X) (d mc ms : Nat) (K : cx_K) (Q : cx_Q) (L : cx_L) (q : Nat) (j : Int32) (r : List Value) (w : cx_W) (u : cx_U) : cx_vc (f + 1) X mLaw_law d mc ms K Q 527 L (.int j :: .ref q :: r) w u = ((cx_sa X w u.1 q).isSome = true ∧ vp_in j ((cx_sa X w u.1 q).getD (0, fun _ => 0)).1 ∧ cx_vc f X mLaw_law d mc ms K Q 528 L (.int (((cx_sa X w u.1 q).getD (0, fun _ => 0)).2 j.toNatClampNeg) :: r) w u) := cx_og (cx_sa X w u.1 q) (0, fun _ => 0) fun p => vp_in j p.1 ∧ cx_vc f X mLaw_law d mc ms K Q 528 L (.int (p.2 j.toNatClampNeg) :: r) w u
set_option maxRecDepth 100000 in
theorem vmLaw_law_528 (f : Nat) (X : cx_X) (d mc ms : Nat) (K : cx_K) (Q : cx_Q) (L : cx_L) (v0 v1 : Value) (r : List Value) (w : cx_W) (u : cx_U) : cx_vc (f + 1) X mLaw_law d mc ms K Q 528 L (v1 :: v0 :: r) w u = (cx_cs r ≤ 8 ∧ cx_rc [v0, v1] w u.1 8 ∧ cx_CS d mc ms 196 [v0, v1] w u (cx_vr2 f X mLaw_law d mc ms K Q 531 L r)) := rfl
set_option maxRecDepth 100000 in
theorem vmLaw_law_531 (f : Nat) (X : cx_X) (d mc ms : Nat) (K : cx_K) (Q : cx_Q) (L : cx_L) (x y : Int32) (r : List Value) (w : cx_W) (u : cx_U) : cx_vc (f + 1) X mLaw_law d mc ms K Q 531 L (.int y :: .int x :: r) w u = (cx_cnd .eq x y (cx_vc f X mLaw_law d mc ms K Q 570 L r w u) (cx_vc f X mLaw_law d mc ms K Q 534 L r w u)) := rfl
set_option maxRecDepth 100000 in
theorem vmLaw_law_534 (f : Nat) (X : cx_X) (d mc ms : Nat) (K : cx_K) (Q : cx_Q) (L : cx_L) (st : List Value) (w : cx_W) (u : cx_U) : cx_vc (f + 1) X mLaw_law d mc ms K Q 534 L st w u = (cx_vc f X mLaw_law d mc ms K Q 535 L (.int 0 :: st) w u) := rfl
set_option maxRecDepth 100000 in
theorem vmLaw_law_535 (f : Nat) (X : cx_X) (d mc ms : Nat) (K : cx_K) (Q : cx_Q) (L : cx_L) (x : Int32) (w : cx_W) (u : cx_U) : cx_vc (f + 1) X mLaw_law d mc ms K Q 535 L [.int x] w u = ((x = 0 ∨ x = 1) ∧ u.2.1 = mc ∧ u.2.2 ≤ ms ∧ Q (some (.int x)) w u) := cx_ri1 _ _
set_option maxRecDepth 100000 in
theorem vmLaw_law_536 (f : Nat) (X : cx_X) (d mc ms : Nat) (K : cx_K) (Q : cx_Q) (l0 l2 l3 : Option Value) (x : Nat) (st : List Value) (w : cx_W) (u : cx_U) : cx_vc (f + 1) X mLaw_law d mc ms K Q 536 [l0, some (.ref x), l2, l3] st w u = (cx_vc f X mLaw_law d mc ms K Q 537 [l0, some (.ref x), l2, l3] (.ref x :: st) w u) := rfl
set_option maxRecDepth 100000 in
theorem vmLaw_law_537 (f : Nat) (X : cx_X) (d mc ms : Nat) (K : cx_K) (Q : cx_Q) (l1 l2 l3 : Option Value) (x : Nat) (st : List Value) (w : cx_W) (u : cx_U) : cx_vc (f + 1) X mLaw_law d mc ms K Q 537 [some (.ref x), l1, l2, l3] st w u = (cx_vc f X mLaw_law d mc ms K Q 538 [some (.ref x), l1, l2, l3] (.ref x :: st) w u) := rfl
set_option maxRecDepth 100000 in
theorem vmLaw_law_538 (f : Nat) (X : cx_X) (d mc ms : Nat) (K : cx_K) (Q : cx_Q) (l0 l1 l2 : Option Value) (x : Int32) (st : List Value) (w : cx_W) (u : cx_U) : cx_vc (f + 1) X mLaw_law d mc ms K Q 538 [l0, l1, l2, some (.int x)] st w u = (cx_vc f X mLaw_law d mc ms K Q 539 [l0, l1, l2, some (.int x)] (.int x :: st) w u) := rfl
set_option maxRecDepth 100000 in
theorem vmLaw_law_539 (f : Nat) (X : cx_X) (d mc ms : Nat) (K : cx_K) (Q : cx_Q) (L : cx_L) (st : List Value) (w : cx_W) (u : cx_U) : cx_vc (f + 1) X mLaw_law d mc ms K Q 539 L st w u = (cx_vc f X mLaw_law d mc ms K Q 540 L (.int 1 :: st) w u) := rfl
set_option maxRecDepth 100000 in
theorem vmLaw_law_540 (f : Nat) (X : cx_X) (d mc ms : Nat) (K : cx_K) (Q : cx_Q) (L : cx_L) (x y : Int32) (r : List Value) (w : cx_W) (u : cx_U) : cx_vc (f + 1) X mLaw_law d mc ms K Q 540 L (.int y :: .int x :: r) w u = (cx_vc f X mLaw_law d mc ms K Q 541 L (.int (x + y) :: r) w u) := rfl
set_option maxRecDepth 100000 in
theorem vmLaw_law_541 (f : Nat) (X : cx_X) (d mc ms : Nat) (K : cx_K) (Q : cx_Q) (L : cx_L) (q : Nat) (j : Int32) (r : List Value) (w : cx_W) (u : cx_U) : cx_vc (f + 1) X mLaw_law d mc ms K Q 541 L (.int j :: .ref q :: r) w u = ((cx_sa X w u.1 q).isSome = true ∧ vp_in j ((cx_sa X w u.1 q).getD (0, fun _ => 0)).1 ∧ cx_vc f X mLaw_law d mc ms K Q 542 L (.int (((cx_sa X w u.1 q).getD (0, fun _ => 0)).2 j.toNatClampNeg) :: r) w u) := cx_og (cx_sa X w u.1 q) (0, fun _ => 0) fun p => vp_in j p.1 ∧ cx_vc f X mLaw_law d mc ms K Q 542 L (.int (p.2 j.toNatClampNeg) :: r) w u
set_option maxRecDepth 100000 in
theorem vmLaw_law_542 (f : Nat) (X : cx_X) (d mc ms : Nat) (K : cx_K) (Q : cx_Q) (L : cx_L) (v0 v1 : Value) (r : List Value) (w : cx_W) (u : cx_U) : cx_vc (f + 1) X mLaw_law d mc ms K Q 542 L (v1 :: v0 :: r) w u = (cx_cs r ≤ 8 ∧ cx_rc [v0, v1] w u.1 0 ∧ cx_CS d mc ms 18 [v0, v1] w u (cx_vr2 f X mLaw_law d mc ms K Q 545 L r)) := rfl
set_option maxRecDepth 100000 in
theorem vmLaw_law_545 (f : Nat) (X : cx_X) (d mc ms : Nat) (K : cx_K) (Q : cx_Q) (l0 l1 l3 : Option Value) (x : Nat) (st : List Value) (w : cx_W) (u : cx_U) : cx_vc (f + 1) X mLaw_law d mc ms K Q 545 [l0, l1, some (.ref x), l3] st w u = (cx_vc f X mLaw_law d mc ms K Q 546 [l0, l1, some (.ref x), l3] (.ref x :: st) w u) := rfl
set_option maxRecDepth 100000 in
theorem vmLaw_law_546 (f : Nat) (X : cx_X) (d mc ms : Nat) (K : cx_K) (Q : cx_Q) (l1 l2 l3 : Option Value) (x : Nat) (st : List Value) (w : cx_W) (u : cx_U) : cx_vc (f + 1) X mLaw_law d mc ms K Q 546 [some (.ref x), l1, l2, l3] st w u = (cx_vc f X mLaw_law d mc ms K Q 547 [some (.ref x), l1, l2, l3] (.ref x :: st) w u) := rfl
set_option maxRecDepth 100000 in
theorem vmLaw_law_547 (f : Nat) (X : cx_X) (d mc ms : Nat) (K : cx_K) (Q : cx_Q) (l0 l1 l2 : Option Value) (x : Int32) (st : List Value) (w : cx_W) (u : cx_U) : cx_vc (f + 1) X mLaw_law d mc ms K Q 547 [l0, l1, l2, some (.int x)] st w u = (cx_vc f X mLaw_law d mc ms K Q 548 [l0, l1, l2, some (.int x)] (.int x :: st) w u) := rfl
set_option maxRecDepth 100000 in
theorem vmLaw_law_548 (f : Nat) (X : cx_X) (d mc ms : Nat) (K : cx_K) (Q : cx_Q) (L : cx_L) (st : List Value) (w : cx_W) (u : cx_U) : cx_vc (f + 1) X mLaw_law d mc ms K Q 548 L st w u = (cx_vc f X mLaw_law d mc ms K Q 549 L (.int 1 :: st) w u) := rfl
set_option maxRecDepth 100000 in
theorem vmLaw_law_549 (f : Nat) (X : cx_X) (d mc ms : Nat) (K : cx_K) (Q : cx_Q) (L : cx_L) (x y : Int32) (r : List Value) (w : cx_W) (u : cx_U) : cx_vc (f + 1) X mLaw_law d mc ms K Q 549 L (.int y :: .int x :: r) w u = (cx_vc f X mLaw_law d mc ms K Q 550 L (.int (x + y) :: r) w u) := rfl
set_option maxRecDepth 100000 in
theorem vmLaw_law_550 (f : Nat) (X : cx_X) (d mc ms : Nat) (K : cx_K) (Q : cx_Q) (L : cx_L) (q : Nat) (j : Int32) (r : List Value) (w : cx_W) (u : cx_U) : cx_vc (f + 1) X mLaw_law d mc ms K Q 550 L (.int j :: .ref q :: r) w u = ((cx_sa X w u.1 q).isSome = true ∧ vp_in j ((cx_sa X w u.1 q).getD (0, fun _ => 0)).1 ∧ cx_vc f X mLaw_law d mc ms K Q 551 L (.int (((cx_sa X w u.1 q).getD (0, fun _ => 0)).2 j.toNatClampNeg) :: r) w u) := cx_og (cx_sa X w u.1 q) (0, fun _ => 0) fun p => vp_in j p.1 ∧ cx_vc f X mLaw_law d mc ms K Q 551 L (.int (p.2 j.toNatClampNeg) :: r) w u
set_option maxRecDepth 100000 in
theorem vmLaw_law_551 (f : Nat) (X : cx_X) (d mc ms : Nat) (K : cx_K) (Q : cx_Q) (L : cx_L) (v0 v1 : Value) (r : List Value) (w : cx_W) (u : cx_U) : cx_vc (f + 1) X mLaw_law d mc ms K Q 551 L (v1 :: v0 :: r) w u = (cx_cs r ≤ 8 ∧ cx_rc [v0, v1] w u.1 8 ∧ cx_CS d mc ms 200 [v0, v1] w u (cx_vr2 f X mLaw_law d mc ms K Q 554 L r)) := rfl
set_option maxRecDepth 100000 in
theorem vmLaw_law_554 (f : Nat) (X : cx_X) (d mc ms : Nat) (K : cx_K) (Q : cx_Q) (L : cx_L) (x y : Int32) (r : List Value) (w : cx_W) (u : cx_U) : cx_vc (f + 1) X mLaw_law d mc ms K Q 554 L (.int y :: .int x :: r) w u = (cx_cnd .eq x y (cx_vc f X mLaw_law d mc ms K Q 570 L r w u) (cx_vc f X mLaw_law d mc ms K Q 557 L r w u)) := rfl
set_option maxRecDepth 100000 in
theorem vmLaw_law_557 (f : Nat) (X : cx_X) (d mc ms : Nat) (K : cx_K) (Q : cx_Q) (L : cx_L) (st : List Value) (w : cx_W) (u : cx_U) : cx_vc (f + 1) X mLaw_law d mc ms K Q 557 L st w u = (cx_vc f X mLaw_law d mc ms K Q 558 L (.int 0 :: st) w u) := rfl
set_option maxRecDepth 100000 in
theorem vmLaw_law_558 (f : Nat) (X : cx_X) (d mc ms : Nat) (K : cx_K) (Q : cx_Q) (L : cx_L) (x : Int32) (w : cx_W) (u : cx_U) : cx_vc (f + 1) X mLaw_law d mc ms K Q 558 L [.int x] w u = ((x = 0 ∨ x = 1) ∧ u.2.1 = mc ∧ u.2.2 ≤ ms ∧ Q (some (.int x)) w u) := cx_ri1 _ _
set_option maxRecDepth 100000 in
theorem vmLaw_law_559 (f : Nat) (X : cx_X) (d mc ms : Nat) (K : cx_K) (Q : cx_Q) (l0 l2 l3 : Option Value) (x : Nat) (st : List Value) (w : cx_W) (u : cx_U) : cx_vc (f + 1) X mLaw_law d mc ms K Q 559 [l0, some (.ref x), l2, l3] st w u = (cx_vc f X mLaw_law d mc ms K Q 560 [l0, some (.ref x), l2, l3] (.ref x :: st) w u) := rfl
set_option maxRecDepth 100000 in
theorem vmLaw_law_560 (f : Nat) (X : cx_X) (d mc ms : Nat) (K : cx_K) (Q : cx_Q) (L : cx_L) (v0 : Value) (r : List Value) (w : cx_W) (u : cx_U) : cx_vc (f + 1) X mLaw_law d mc ms K Q 560 L (v0 :: r) w u = (cx_cs r ≤ 8 ∧ cx_rc [v0] w u.1 0 ∧ cx_CS d mc ms 19 [v0] w u (cx_vr2 f X mLaw_law d mc ms K Q 563 L r)) := rfl
set_option maxRecDepth 100000 in
theorem vmLaw_law_563 (f : Nat) (X : cx_X) (d mc ms : Nat) (K : cx_K) (Q : cx_Q) (l0 l1 l3 : Option Value) (x : Nat) (st : List Value) (w : cx_W) (u : cx_U) : cx_vc (f + 1) X mLaw_law d mc ms K Q 563 [l0, l1, some (.ref x), l3] st w u = (cx_vc f X mLaw_law d mc ms K Q 564 [l0, l1, some (.ref x), l3] (.ref x :: st) w u) := rfl
set_option maxRecDepth 100000 in
theorem vmLaw_law_564 (f : Nat) (X : cx_X) (d mc ms : Nat) (K : cx_K) (Q : cx_Q) (L : cx_L) (v0 : Value) (r : List Value) (w : cx_W) (u : cx_U) : cx_vc (f + 1) X mLaw_law d mc ms K Q 564 L (v0 :: r) w u = (cx_cs r ≤ 8 ∧ cx_rc [v0] w u.1 8 ∧ cx_CS d mc ms 201 [v0] w u (cx_vr2 f X mLaw_law d mc ms K Q 567 L r)) := rfl
set_option maxRecDepth 100000 in
theorem vmLaw_law_567 (f : Nat) (X : cx_X) (d mc ms : Nat) (K : cx_K) (Q : cx_Q) (L : cx_L) (st : List Value) (w : cx_W) (u : cx_U) : cx_vc (f + 1) X mLaw_law d mc ms K Q 567 L st w u = (cx_vc f X mLaw_law d mc ms K Q 570 L st w u) := rfl
set_option maxRecDepth 100000 in
theorem vmLaw_law_570 (f : Nat) (X : cx_X) (d mc ms : Nat) (K : cx_K) (Q : cx_Q) (l0 l1 l2 : Option Value) (x : Int32) (st : List Value) (w : cx_W) (u : cx_U) : cx_vc (f + 1) X mLaw_law d mc ms K Q 570 [l0, l1, l2, some (.int x)] st w u = (cx_vc f X mLaw_law d mc ms K Q 573 (cx_set [l0, l1, l2, some (.int x)] 3 (.int (x + 5))) st w u) := rfl
set_option maxRecDepth 100000 in
theorem vmLaw_law_573 (f : Nat) (X : cx_X) (d mc ms : Nat) (K : cx_K) (Q : cx_Q) (L : cx_L) (st : List Value) (w : cx_W) (u : cx_U) : cx_vc (f + 1) X mLaw_law d mc ms K Q 573 L st w u = (K 18 L st w u) := rfl
set_option maxRecDepth 100000 in
theorem vmLaw_law_576 (f : Nat) (X : cx_X) (d mc ms : Nat) (K : cx_K) (Q : cx_Q) (L : cx_L) (st : List Value) (w : cx_W) (u : cx_U) : cx_vc (f + 1) X mLaw_law d mc ms K Q 576 L st w u = (cx_vc f X mLaw_law d mc ms K Q 577 L (.int 1 :: st) w u) := rfl
set_option maxRecDepth 100000 in
theorem vmLaw_law_577 (f : Nat) (X : cx_X) (d mc ms : Nat) (K : cx_K) (Q : cx_Q) (L : cx_L) (x : Int32) (w : cx_W) (u : cx_U) : cx_vc (f + 1) X mLaw_law d mc ms K Q 577 L [.int x] w u = ((x = 0 ∨ x = 1) ∧ u.2.1 = mc ∧ u.2.2 ≤ ms ∧ Q (some (.int x)) w u) := cx_ri1 _ _
def BmLaw_law := (And.intro (And.intro (And.intro (And.intro (And.intro (And.intro (And.intro (And.intro vmLaw_law_0 vmLaw_law_3) (And.intro vmLaw_law_3r (And.intro vmLaw_law_4 vmLaw_law_7))) (And.intro (And.intro vmLaw_law_8 (And.intro vmLaw_law_11 vmLaw_law_11r)) (And.intro vmLaw_law_12 (And.intro vmLaw_law_15 vmLaw_law_16)))) (And.intro (And.intro (And.intro vmLaw_law_17 vmLaw_law_18) (And.intro vmLaw_law_19 (And.intro vmLaw_law_20 vmLaw_law_21))) (And.intro (And.intro vmLaw_law_22 (And.intro vmLaw_law_23 vmLaw_law_26)) (And.intro vmLaw_law_27 (And.intro vmLaw_law_28 vmLaw_law_29))))) (And.intro (And.intro (And.intro (And.intro vmLaw_law_31 vmLaw_law_32) (And.intro vmLaw_law_124 (And.intro vmLaw_law_125 vmLaw_law_128))) (And.intro (And.intro vmLaw_law_129 (And.intro vmLaw_law_132 vmLaw_law_135)) (And.intro vmLaw_law_136 (And.intro vmLaw_law_137 vmLaw_law_138)))) (And.intro (And.intro (And.intro vmLaw_law_139 (And.intro vmLaw_law_140 vmLaw_law_141)) (And.intro vmLaw_law_142 (And.intro vmLaw_law_143 vmLaw_law_146))) (And.intro (And.intro vmLaw_law_147 (And.intro vmLaw_law_148 vmLaw_law_149)) (And.intro vmLaw_law_150 (And.intro vmLaw_law_151 vmLaw_law_152)))))) (And.intro (And.intro (And.intro (And.intro (And.intro vmLaw_law_155 vmLaw_law_158) (And.intro vmLaw_law_159 (And.intro vmLaw_law_160 vmLaw_law_161))) (And.intro (And.intro vmLaw_law_162 (And.intro vmLaw_law_163 vmLaw_law_164)) (And.intro vmLaw_law_165 (And.intro vmLaw_law_166 vmLaw_law_167)))) (And.intro (And.intro (And.intro vmLaw_law_168 vmLaw_law_169) (And.intro vmLaw_law_170 (And.intro vmLaw_law_171 vmLaw_law_172))) (And.intro (And.intro vmLaw_law_173 (And.intro vmLaw_law_174 vmLaw_law_175)) (And.intro vmLaw_law_176 (And.intro vmLaw_law_177 vmLaw_law_178))))) (And.intro (And.intro (And.intro (And.intro vmLaw_law_179 vmLaw_law_180) (And.intro vmLaw_law_181 (And.intro vmLaw_law_184 vmLaw_law_185))) (And.intro (And.intro vmLaw_law_186 (And.intro vmLaw_law_187 vmLaw_law_188)) (And.intro vmLaw_law_189 (And.intro vmLaw_law_190 vmLaw_law_191)))) (And.intro (And.intro (And.intro vmLaw_law_192 (And.intro vmLaw_law_193 vmLaw_law_194)) (And.intro vmLaw_law_195 (And.intro vmLaw_law_196 vmLaw_law_197))) (And.intro (And.intro vmLaw_law_198 (And.intro vmLaw_law_199 vmLaw_law_200)) (And.intro vmLaw_law_201 (And.intro vmLaw_law_202 vmLaw_law_203))))))) (And.intro (And.intro (And.intro (And.intro (And.intro (And.intro vmLaw_law_204 vmLaw_law_205) (And.intro vmLaw_law_208 (And.intro vmLaw_law_211 vmLaw_law_212))) (And.intro (And.intro vmLaw_law_213 (And.intro vmLaw_law_214 vmLaw_law_215)) (And.intro vmLaw_law_216 (And.intro vmLaw_law_217 vmLaw_law_218)))) (And.intro (And.intro (And.intro vmLaw_law_219 vmLaw_law_220) (And.intro vmLaw_law_221 (And.intro vmLaw_law_222 vmLaw_law_223))) (And.intro (And.intro vmLaw_law_224 (And.intro vmLaw_law_227 vmLaw_law_228)) (And.intro vmLaw_law_229 (And.intro vmLaw_law_230 vmLaw_law_231))))) (And.intro (And.intro (And.intro (And.intro vmLaw_law_232 vmLaw_law_233) (And.intro vmLaw_law_234 (And.intro vmLaw_law_235 vmLaw_law_236))) (And.intro (And.intro vmLaw_law_237 (And.intro vmLaw_law_238 vmLaw_law_241)) (And.intro vmLaw_law_244 (And.intro vmLaw_law_245 vmLaw_law_246)))) (And.intro (And.intro (And.intro vmLaw_law_247 (And.intro vmLaw_law_248 vmLaw_law_249)) (And.intro vmLaw_law_250 (And.intro vmLaw_law_251 vmLaw_law_252))) (And.intro (And.intro vmLaw_law_255 (And.intro vmLaw_law_256 vmLaw_law_257)) (And.intro vmLaw_law_258 (And.intro vmLaw_law_259 vmLaw_law_260)))))) (And.intro (And.intro (And.intro (And.intro (And.intro vmLaw_law_261 vmLaw_law_264) (And.intro vmLaw_law_267 (And.intro vmLaw_law_268 vmLaw_law_269))) (And.intro (And.intro vmLaw_law_270 (And.intro vmLaw_law_271 vmLaw_law_272)) (And.intro vmLaw_law_273 (And.intro vmLaw_law_274 vmLaw_law_275)))) (And.intro (And.intro (And.intro vmLaw_law_276 vmLaw_law_277) (And.intro vmLaw_law_278 (And.intro vmLaw_law_279 vmLaw_law_280))) (And.intro (And.intro vmLaw_law_281 (And.intro vmLaw_law_282 vmLaw_law_283)) (And.intro vmLaw_law_284 (And.intro vmLaw_law_285 vmLaw_law_288))))) (And.intro (And.intro (And.intro (And.intro vmLaw_law_289 vmLaw_law_290) (And.intro vmLaw_law_291 (And.intro vmLaw_law_292 vmLaw_law_293))) (And.intro (And.intro vmLaw_law_294 (And.intro vmLaw_law_295 vmLaw_law_296)) (And.intro vmLaw_law_297 (And.intro vmLaw_law_298 vmLaw_law_299)))) (And.intro (And.intro (And.intro vmLaw_law_300 (And.intro vmLaw_law_301 vmLaw_law_302)) (And.intro vmLaw_law_303 (And.intro vmLaw_law_304 vmLaw_law_307))) (And.intro (And.intro vmLaw_law_310 (And.intro vmLaw_law_311 vmLaw_law_312)) (And.intro vmLaw_law_313 (And.intro vmLaw_law_316 vmLaw_law_317)))))))) (And.intro (And.intro (And.intro (And.intro (And.intro (And.intro (And.intro vmLaw_law_320 vmLaw_law_323) (And.intro vmLaw_law_324 (And.intro vmLaw_law_325 vmLaw_law_326))) (And.intro (And.intro vmLaw_law_327 (And.intro vmLaw_law_328 vmLaw_law_329)) (And.intro vmLaw_law_330 (And.intro vmLaw_law_331 vmLaw_law_334)))) (And.intro (And.intro (And.intro vmLaw_law_335 vmLaw_law_336) (And.intro vmLaw_law_337 (And.intro vmLaw_law_338 vmLaw_law_339))) (And.intro (And.intro vmLaw_law_340 (And.intro vmLaw_law_343 vmLaw_law_346)) (And.intro vmLaw_law_347 (And.intro vmLaw_law_348 vmLaw_law_349))))) (And.intro (And.intro (And.intro (And.intro vmLaw_law_350 vmLaw_law_351) (And.intro vmLaw_law_352 (And.intro vmLaw_law_353 vmLaw_law_354))) (And.intro (And.intro vmLaw_law_355 (And.intro vmLaw_law_356 vmLaw_law_357)) (And.intro vmLaw_law_358 (And.intro vmLaw_law_359 vmLaw_law_362)))) (And.intro (And.intro (And.intro vmLaw_law_363 (And.intro vmLaw_law_364 vmLaw_law_365)) (And.intro vmLaw_law_366 (And.intro vmLaw_law_367 vmLaw_law_368))) (And.intro (And.intro vmLaw_law_369 (And.intro vmLaw_law_370 vmLaw_law_371)) (And.intro vmLaw_law_372 (And.intro vmLaw_law_373 vmLaw_law_376)))))) (And.intro (And.intro (And.intro (And.intro (And.intro vmLaw_law_379 vmLaw_law_380) (And.intro vmLaw_law_381 (And.intro vmLaw_law_382 vmLaw_law_385))) (And.intro (And.intro vmLaw_law_386 (And.intro vmLaw_law_389 vmLaw_law_392)) (And.intro vmLaw_law_393 (And.intro vmLaw_law_394 vmLaw_law_395)))) (And.intro (And.intro (And.intro vmLaw_law_398 vmLaw_law_399) (And.intro vmLaw_law_402 (And.intro vmLaw_law_405 vmLaw_law_406))) (And.intro (And.intro vmLaw_law_407 (And.intro vmLaw_law_408 vmLaw_law_409)) (And.intro vmLaw_law_410 (And.intro vmLaw_law_411 vmLaw_law_412))))) (And.intro (And.intro (And.intro (And.intro vmLaw_law_413 vmLaw_law_416) (And.intro vmLaw_law_417 (And.intro vmLaw_law_418 vmLaw_law_419))) (And.intro (And.intro vmLaw_law_420 (And.intro vmLaw_law_421 vmLaw_law_422)) (And.intro vmLaw_law_425 (And.intro vmLaw_law_428 vmLaw_law_429)))) (And.intro (And.intro (And.intro vmLaw_law_430 (And.intro vmLaw_law_431 vmLaw_law_434)) (And.intro vmLaw_law_435 (And.intro vmLaw_law_438 vmLaw_law_441))) (And.intro (And.intro vmLaw_law_442 (And.intro vmLaw_law_443 vmLaw_law_444)) (And.intro vmLaw_law_447 (And.intro vmLaw_law_448 vmLaw_law_451))))))) (And.intro (And.intro (And.intro (And.intro (And.intro (And.intro vmLaw_law_454 vmLaw_law_455) (And.intro vmLaw_law_456 (And.intro vmLaw_law_457 vmLaw_law_458))) (And.intro (And.intro vmLaw_law_459 (And.intro vmLaw_law_460 vmLaw_law_461)) (And.intro vmLaw_law_462 (And.intro vmLaw_law_465 vmLaw_law_466)))) (And.intro (And.intro (And.intro vmLaw_law_467 vmLaw_law_468) (And.intro vmLaw_law_469 (And.intro vmLaw_law_470 vmLaw_law_471))) (And.intro (And.intro vmLaw_law_474 (And.intro vmLaw_law_477 vmLaw_law_478)) (And.intro vmLaw_law_479 (And.intro vmLaw_law_480 vmLaw_law_481))))) (And.intro (And.intro (And.intro (And.intro vmLaw_law_482 vmLaw_law_483) (And.intro vmLaw_law_484 (And.intro vmLaw_law_485 vmLaw_law_486))) (And.intro (And.intro vmLaw_law_487 (And.intro vmLaw_law_488 vmLaw_law_489)) (And.intro vmLaw_law_490 (And.intro vmLaw_law_493 vmLaw_law_494)))) (And.intro (And.intro (And.intro vmLaw_law_495 (And.intro vmLaw_law_496 vmLaw_law_497)) (And.intro vmLaw_law_498 (And.intro vmLaw_law_499 vmLaw_law_500))) (And.intro (And.intro vmLaw_law_501 (And.intro vmLaw_law_502 vmLaw_law_503)) (And.intro vmLaw_law_504 (And.intro vmLaw_law_507 vmLaw_law_508)))))) (And.intro (And.intro (And.intro (And.intro (And.intro vmLaw_law_511 vmLaw_law_512) (And.intro vmLaw_law_513 (And.intro vmLaw_law_514 vmLaw_law_515))) (And.intro (And.intro vmLaw_law_516 (And.intro vmLaw_law_517 vmLaw_law_518)) (And.intro vmLaw_law_519 (And.intro vmLaw_law_522 vmLaw_law_523)))) (And.intro (And.intro (And.intro vmLaw_law_524 vmLaw_law_525) (And.intro vmLaw_law_526 (And.intro vmLaw_law_527 vmLaw_law_528))) (And.intro (And.intro vmLaw_law_531 (And.intro vmLaw_law_534 vmLaw_law_535)) (And.intro vmLaw_law_536 (And.intro vmLaw_law_537 vmLaw_law_538))))) (And.intro (And.intro (And.intro (And.intro vmLaw_law_539 vmLaw_law_540) (And.intro vmLaw_law_541 (And.intro vmLaw_law_542 vmLaw_law_545))) (And.intro (And.intro vmLaw_law_546 (And.intro vmLaw_law_547 vmLaw_law_548)) (And.intro vmLaw_law_549 (And.intro vmLaw_law_550 vmLaw_law_551)))) (And.intro (And.intro (And.intro vmLaw_law_554 (And.intro vmLaw_law_557 vmLaw_law_558)) (And.intro vmLaw_law_559 (And.intro vmLaw_law_560 vmLaw_law_563))) (And.intro (And.intro vmLaw_law_564 (And.intro vmLaw_law_567 vmLaw_law_570)) (And.intro vmLaw_law_573 (And.intro vmLaw_law_576 vmLaw_law_577)))))))))
