/-! Why the conditions of 02.core are walks of the machine. Own work. -/
def cx_tys (cA : Nat → ClassId) : List (ClassId × FieldType) := [(cA 0, .int), (cA 1, .long), (cA 2, .boolean)]
def cx_rm (d ce sl : Nat) : Room := { frames := d, cells := ce, slots := sl, locals := 40 * d }
def cx_ws (M : cx_M) : List Cond := Cond.code (cx_y M) (cx_b M) (cx_n M) (cx_r M) :: cx_tb
def cx_P (g : Nat × Nat) (D : va_G) (cA : Nat → ClassId) (n : Nat) (w : cx_W) (H : Heap) : Prop := n ≤ 1000000 ∧ va_P D cx_cl (cx_w g cA n w) H
/-- a method's contract: from the world w of n cells, with the arguments as, it ends with an answer and a world that Q has; ce cells are new -/
def cx_MC (M : cx_M) (d ce sl : Nat) (as : List Value) (w : cx_W) (n : Nat) (Q : Option Value → cx_W → Prop) : Prop :=
  ∀ (l : Launch) (g : Nat × Nat) (D : va_G) (cA : Nat → ClassId), Met l (cx_y M) (cx_ws M) (cx_rm d ce sl) (va_Pc (as.map (cx_v g)) (fun U => U.heap.size = g.1 + n ∧ cx_P g D cA n w U.heap ∧ va_K D cx_cl (cx_tys cA) U))
    (fun _ st oc t => (∃ (r : Option Value) (w2 : cx_W), oc = .returned (r.map (cx_v g)) ∧ Q r w2 ∧ cx_P g D cA (n + ce) w2 t.heap ∧ va_K D cx_cl (cx_tys cA) t) ∧ va_F (fun q => g.1 ≤ q) st t) ce sl (fun q => g.1 ≤ q)
def cx_rok (M : cx_M) : Option Value → Prop
  | none => cx_r M = none
  | some (.int x) => cx_r M = some .int ∨ (cx_r M = some .boolean ∧ (x = 0 ∨ x = 1))
  | some (.long _) => cx_r M = some .long
  | _ => False
def cx_rdec (M : cx_M) (pc : Nat) : Option Value → Prop
  | none => decode (cx_b M) pc = .ok (.return_, 1)
  | some (.int _) => decode (cx_b M) pc = .ok (.ireturn, 1)
  | some (.long _) => decode (cx_b M) pc = .ok (.lreturn, 1)
  | _ => False
def cx_C (X : cx_X) (M : cx_M) (d mc ms : Nat) (Q : cx_Q) (p : Program) (l : Launch) (e : Env) (R : Room) (s : State) (m : MethodId) (args : Array Value) (below : List Frame) (meth : Method) (c : Code) (F : State → Prop) (g : Nat × Nat) (D : va_G) (cA : Nat → ClassId) : Prop :=
  (p.tables.exec = Jvm.exec ∧ c.code = cx_b M ∧ meth.sig.returnType = cx_r M ∧ c.maxLocals = cx_n M ∧ s.vm.findClass (cx_y M).cls = some m.cls ∧ (∀ w ∈ cx_tb, w.before args s = true) ∧ ((cx_y M).name = "<init>" → meth.name = "<init>")) ∧
  (va_K D cx_cl (cx_tys cA) s ∧ g.1 ≤ s.heap.size ∧ (∀ q, X = some q → va_X g.2 q.1 q.2 s s.heap ∧ g.2 < g.1) ∧ d ≤ R.frames ∧ 40 * d ≤ R.locals ∧ mc ≤ R.cells ∧ ms ≤ R.slots) ∧
  (∀ (r : Option Value) (w : cx_W) (u : cx_U) (H : Heap) (locs : List Loc) (pc : Nat) (ls : Array Slot), Q r w u → cx_rok M r → s.heap.size + u.2.1 = g.1 + u.1 → cx_P g D cA u.1 w H → va_S (fun q => g.1 ≤ q) s.heap H locs → u.2.1 = mc → u.2.2 ≤ ms → cx_rdec M pc r →
    W p l e R s m args below meth c H locs u.2.1 u.2.2 F (F0 m pc ls ((cx_push r []).map (cx_v g))))
/-- from this point on the machine comes to an end that Q has -/
def cx_OK (X : cx_X) (M : cx_M) (d mc ms : Nat) (Q : cx_Q) (pc : Nat) (L : cx_L) (st : List Value) (w : cx_W) (u : cx_U) : Prop :=
  ∀ (p : Program) (l : Launch) (e : Env) (R : Room) (s : State) (m : MethodId) (args : Array Value) (below : List Frame) (meth : Method) (c : Code) (F : State → Prop) (g : Nat × Nat) (D : va_G) (cA : Nat → ClassId) (H : Heap) (locs : List Loc) (ls : Array Slot),
    cx_C X M d mc ms Q p l e R s m args below meth c F g D cA → s.heap.size + u.2.1 = g.1 + u.1 → cx_P g D cA u.1 w H → va_S (fun q => g.1 ≤ q) s.heap H locs → lv_has ls (cx_n M) (cx_al g L) →
    W p l e R s m args below meth c H locs u.2.1 u.2.2 F (F0 m pc ls (st.map (cx_v g)))
-- entry
theorem cx_in_nil {v : Value} : ∀ {n j : Nat}, (cx_in n [])[j]? = some (some v) → False
  | 0, j, h => by simp [cx_in] at h
  | n + 1, 0, h => by simp [cx_in] at h
  | n + 1, j + 1, h => cx_in_nil (n := n) (j := j) (by simpa [cx_in] using h)
theorem cx_a1_cons {n : Nat} {v : Value} {vs : List Value} (h : cx_a1 n (v :: vs) = true) : ∃ n2, n = n2 + 1 ∧ v.category = 1 ∧ cx_a1 n2 vs = true := by
  cases n with
  | zero => cases v <;> simp [cx_a1] at h
  | succ n2 => cases v <;> first | (simp [cx_a1] at h; done) | exact ⟨n2, rfl, rfl, h⟩
theorem cx_in_at {g : Nat × Nat} {v : Value} : ∀ {as : List Value} {n i j : Nat}, cx_a1 n as = true → (cx_in n as)[j]? = some (some v) → (i + j, cx_v g v) ∈ lv_args i (as.map (cx_v g))
  | [], n, i, j, _, h => (cx_in_nil h).elim
  | a :: as, n, i, j, ha, h => by
    obtain ⟨n2, rfl, hc, h2⟩ := cx_a1_cons ha
    show (i + j, cx_v g v) ∈ (i, cx_v g a) :: lv_args (if (cx_v g a).category = 2 then i + 2 else i + 1) (as.map (cx_v g))
    rw [cx_cat, hc, if_neg (by decide)]
    cases j with
    | zero =>
      have h3 : a = v := by simpa [cx_in] using h
      rw [h3]
      exact List.mem_cons_self
    | succ j =>
      have h3 : (cx_in n2 as)[j]? = some (some v) := by simpa [cx_in] using h
      have h4 := cx_in_at (g := g) (i := i + 1) h2 h3
      rw [show i + (j + 1) = i + 1 + j by omega]
      exact List.mem_cons_of_mem _ h4
theorem cx_a1_len {g : Nat × Nat} : ∀ {as : List Value} {n : Nat}, cx_a1 n as = true → (lg_sl (as.map (cx_v g))).length ≤ n
  | [], n, _ => Nat.zero_le _
  | a :: as, n, ha => by
    obtain ⟨n2, rfl, hc, h2⟩ := cx_a1_cons ha
    have h3 := cx_a1_len (g := g) h2
    show ((if (cx_v g a).category = 2 then [Slot.val (cx_v g a), .second] else [Slot.val (cx_v g a)]) ++ lg_sl (as.map (cx_v g))).length ≤ n2 + 1
    rw [cx_cat, hc, if_neg (by decide), List.length_append]
    simp only [List.length_cons, List.length_nil]
    omega
theorem cx_MC_of {M : cx_M} (hM : cx_mok M) {d mc ms n : Nat} {as : List Value} {w : cx_W} {Q : Option Value → cx_W → Prop} (ha : cx_a1 (cx_n M) as = true) (h : cx_OK none M d mc ms (fun r w _ => Q r w) 0 (cx_in (cx_n M) as) [] w (n, 0, 0)) : cx_MC M d mc ms as w n Q := by
  intro l g D cA
  refine Met.ofW (cc := cx_b M) (maxL := cx_n M) (ret := cx_r M) hM.2.1 rfl ?_
  intro p e s m args below meth c s₁ B hml hv
  obtain ⟨rfl, hZ, hP, hK⟩ := hv
  have hts := atoms_spec (ws := cx_ws M) B.pre
  have hown : s.vm.findClass (cx_y M).cls = some m.cls := findClass_of_methodNamed B.named
  have hlocks : meth.locks = false := B.notSynchronized
  have hnm := (name_of_methodNamed B.named B.method).1
  have hr := B.returns
  have hx := B.exec
  have hb := B.bytes
  rw [lg_entry_eq]
  have hl := lv_entry (as.map (cx_v g)) (n := cx_n M) (cx_a1_len ha)
  refine h p l e _ s m _ below meth c _ g D cA s.heap [] _ ⟨⟨hx, hb, hr, hml, hown, fun w hw => hts w (List.mem_cons_of_mem _ hw), fun q => by rw [hnm]; exact q⟩, ⟨hK, by rw [hZ]; exact Nat.le_add_right _ _, fun q hq => (by cases hq), Nat.le_refl _, Nat.le_refl _, Nat.le_refl _, Nat.le_refl _⟩, ?_⟩ hZ hP va_S.rf (cx_has_sub hl fun q hq => ?_)
  · intro r w2 u2 H locs pc ls hq hrk hI hP2 hS hc hs hd
    have hI2 : u2.1 = n + mc := by
      rw [hZ] at hI
      omega
    rw [hI2] at hP2
    refine W.widen (k := mc) (n := ms) (by omega) hs ?_
    cases r with
    | none => exact W.vret hx hb (hr.trans hrk) (fun t ht hW => ⟨⟨none, w2, rfl, hq, by rw [ht]; exact hP2, va_K.moved hW.alike hK⟩, hS.F ht⟩) hS.2.2 hd
    | some v =>
      cases v with
      | int x =>
        rcases hrk with hrk | ⟨hrk, hx01⟩
        · exact W.iret hx hb (hr.trans hrk) (fun t ht hW => ⟨⟨some (.int x), w2, rfl, hq, by rw [ht]; exact hP2, va_K.moved hW.alike hK⟩, hS.F ht⟩) hS.2.2 hd
        · refine W.zret hx hb (hr.trans hrk) ?_ (fun t ht hW => ⟨⟨some (.int x), w2, rfl, hq, by rw [ht]; exact hP2, va_K.moved hW.alike hK⟩, hS.F ht⟩) hS.2.2 hd
          rcases hx01 with rfl | rfl
          · exact narrow_b0
          · exact narrow_b1
      | long x => exact W.lret hx hb (hr.trans hrk) (fun t ht hW => ⟨⟨some (.long x), w2, rfl, hq, by rw [ht]; exact hP2, va_K.moved hW.alike hK⟩, hS.F ht⟩) hS.2.2 hd
      | _ => exact hrk.elim
  · obtain ⟨v, h1, h2⟩ := cx_al_mem.mp hq
    have h3 := cx_in_at (g := g) (i := 0) ha h1
    rw [Nat.zero_add, ← h2] at h3
    exact h3
section CXG
variable {p : Program} {l : Launch} {e : Env} {R : Room} {s : State} {m : MethodId} {args : Array Value} {below : List Frame} {meth : Method} {c : Code} {H : Heap} {locs : List Loc} {cells slots : Nat} {Q : State → Prop}
variable {pc : Nat} {ls : Array Slot} {rest st0 : List Value} {A0 : Nat → Prop} {H0 : Heap} {mc ms : Nat} {free : Addr → Prop}
/-- behind a call, whatever its answer -/
theorem cx_back {Qa : State → Outcome → State → Prop} (hr : va_Run p l e R s m args below meth c H locs cells slots mc ms (F0 m pc ls st0) rest Qa free) (hF : ∀ st v t, Qa st (.returned v) t → va_F A0 st t) (hS : va_S A0 H0 H locs) (hf : ∀ q, free q → A0 q)
    (kk : ∀ (v : Option Value) (st t : State) (H1 : Heap) (locs1 : List Loc), t.heap = H1 → s.vm.Alike t.vm → Qa st (.returned v) t → va_S A0 H0 H1 locs1 → W p l e R s m args below meth c H1 locs1 (cells + mc) (slots + ms) Q (F0 m (pc + 3) ls (v.toList ++ rest))) : W p l e R s m args below meth c H locs cells slots Q (F0 m pc ls st0) := by
  intro T hT X
  obtain ⟨v, st₀, t, T', L, h0, X', hL, e1, e2, hq, st⟩ := hr T hT X
  obtain ⟨hz, hk⟩ := hF _ _ _ hq
  rw [h0] at hz hk
  obtain ⟨t2, a1, b1⟩ := kk v st₀ t T'.heap (locs ++ L) e1.symm (by rw [← e2]; exact X'.warmed.alike) hq
    ⟨Nat.le_trans hS.1 (by rw [e1]; exact hz), fun q h1 h2 => by rw [e1, hk q (Nat.lt_of_lt_of_le h1 hS.1) h2]; exact hS.2.1 q h1 h2, fun q hq => by
      rcases List.mem_append.mp hq with h | h
      · exact hS.2.2 q h
      · exact hf _ (hL q h)⟩ T' rfl X'
  exact ⟨t2, st t2 a1, b1⟩
/-- the cells that are counted bound the heap -/
theorem cx_size {g : JFrame} (kk : H.size ≤ s.heap.size + cells → W p l e R s m args below meth c H locs cells slots Q g) : W p l e R s m args below meth c H locs cells slots Q g := fun T hT X => kk (by rw [← hT]; exact X.same.2.2.1) T hT X
end CXG
/-- where the bound is met the heap is as large as the world says -/
theorem cx_full {g : Nat × Nat} {D : va_G} {cA : Nat → ClassId} {n cells : Nat} {w : cx_W} {s : State} {H : Heap} {locs : List Loc} (hI : s.heap.size + cells = g.1 + n) (hP : cx_P g D cA n w H) (hS : va_S (fun q => g.1 ≤ q) s.heap H locs) (hg : g.1 ≤ s.heap.size) (hz : H.size ≤ s.heap.size + cells) : H.size = g.1 + n := by
  have h1 : g.1 + n ≤ H.size := by
    cases n with
    | zero => exact Nat.le_trans hg hS.1
    | succ k =>
      have h2 := (hP.2 k _ (cx_w_at (Nat.lt_succ_self k))).lt
      have h3 : cx_ad g k = g.1 + k := by
        unfold cx_ad
        rw [if_neg (by have := hP.1; omega)]
      have h4 : cx_ad g k < H.size := h2
      omega
  omega
/-- the cell that is new lies behind the others -/
theorem cx_newq {g : Nat × Nat} {D : va_G} {cA : Nat → ClassId} {n cells q : Nat} {w : cx_W} {e : va_E} {s : State} {H : Heap} (hI : s.heap.size + cells = g.1 + n) (hn : n < 1000000) (hP : va_P D cx_cl (cx_w g cA n w ++ [(q, e)]) H) (hD : va_D (fun q => g.1 ≤ q) (cx_w g cA n w ++ [(q, e)])) (hz : H.size ≤ s.heap.size + (cells + 1)) : q = g.1 + n := by
  have hlast : (cx_w g cA n w ++ [(q, e)])[n]? = some (q, e) := by
    rw [List.getElem?_append_right (by rw [cx_w_len]; exact Nat.le_refl _), cx_w_len, Nat.sub_self]
    rfl
  have h1 : q < H.size := (hP n _ hlast).lt
  have h2 : g.1 ≤ q := hD.2 n _ hlast
  by_cases h3 : q = g.1 + n
  · exact h3
  · have hk : q - g.1 < n := by omega
    have hat : (cx_w g cA n w ++ [(q, e)])[q - g.1]? = some (cx_ad g (q - g.1), cx_e g cA (w (q - g.1))) := by
      rw [List.getElem?_append_left (by rw [cx_w_len]; exact hk)]
      exact cx_w_at hk
    have h4 := hD.1 (q - g.1) n _ _ hat hlast (by
      show cx_ad g (q - g.1) = q
      unfold cx_ad
      rw [if_neg (by omega)]
      omega)
    omega
/-- a call, by a contract -/
def cx_CS (d mc ms a : Nat) (as : List Value) (w : cx_W) (u : cx_U) (k : cx_Q) : Prop :=
  ∃ (d2 ce sl : Nat) (Q : Option Value → cx_W → Prop), (d2 + 1 ≤ d ∧ 8 + (cx_n (cx_m a) + 11) + 40 * d2 ≤ 40 * d ∧ u.2.1 + ce ≤ mc ∧ u.2.2 + sl ≤ ms) ∧ cx_MC (cx_m a) d2 ce sl as w u.1 Q ∧ ∀ r w2, Q r w2 → k r w2 (u.1 + ce, u.2.1 + ce, u.2.2 + sl)
def cx_pd : Nat → Option Nat
  | 0 => none
  | d + 1 => some d
/-- a method's rows read as one condition, up to the next head of a loop (K) or an end (Q); small methods are read where they are called -/
def cx_vc : Nat → cx_X → cx_M → Nat → Nat → Nat → cx_K → cx_Q → Nat → cx_L → List Value → cx_W → cx_U → Prop
  | 0, _, _, _, _, _, K, _, pc, L, st, w, u => K pc L st w u
  | f + 1, X, M, d, mc, ms, K, Q, pc, L, st, w, u => cx_o (cx_look (cx_t M) pc) fun r =>
    cx_step cx_dfl X d mc ms (fun a as w u k => if cx_inl.elem a = true then
        cx_o (cx_pd d) (fun d2 => (cx_a1 (cx_n (cx_m a)) as = true ∧ cx_n (cx_m a) ≤ 21 ∧ u.2.1 ≤ mc ∧ u.2.2 ≤ ms) ∧ cx_vc f none (cx_m a) d2 0 0 (fun _ _ _ _ _ => False) (fun r w2 _ => k r w2 u) 0 (cx_in (cx_n (cx_m a)) as) [] w (u.1, 0, 0))
      else cx_CS d mc ms a as w u k) r.1 r.2.1 r.2.2.1 r.2.2.2.1 r.2.2.2.2 pc L st w u Q
      (fun pc L st w u => if (cx_h M).elem pc = true then K pc L st w u else cx_vc f X M d mc ms K Q pc L st w u)
/-- a value that a field takes -/
theorem cx_pf_ok {g : Nat × Nat} {c : Nat} {y : Value} {ty : FieldType} (h : cx_pf c y) (ht : cx_fty c ty) : narrow ty (cx_v g y) = cx_v g y ∧ fits ty (cx_v g y) = true := by
  match c, y, h with
  | 0, .int x, _ => cases (show ty = .int from ht); exact ⟨rfl, rfl⟩
  | 4, .int x, _ => cases (show ty = .int from ht); exact ⟨rfl, rfl⟩
  | 1, .int x, h =>
    cases (show ty = .boolean from ht)
    rcases (show x = 0 ∨ x = 1 from h) with rfl | rfl
    · exact ⟨narrow_b0, by show fits .boolean (.int 0) = true; decide⟩
    · exact ⟨narrow_b1, by show fits .boolean (.int 1) = true; decide⟩
  | 5, .int x, h =>
    cases (show ty = .boolean from ht)
    rcases (show x = 0 ∨ x = 1 from h) with rfl | rfl
    · exact ⟨narrow_b0, by show fits .boolean (.int 0) = true; decide⟩
    · exact ⟨narrow_b1, by show fits .boolean (.int 1) = true; decide⟩
  | 2, .ref x, _ => rcases (show (∃ n, ty = .object n) ∨ ∃ t, ty = .array t from ht) with ⟨n, rfl⟩ | ⟨t, rfl⟩ <;> exact ⟨rfl, rfl⟩
  | 6, .ref x, _ => rcases (show (∃ n, ty = .object n) ∨ ∃ t, ty = .array t from ht) with ⟨n, rfl⟩ | ⟨t, rfl⟩ <;> exact ⟨rfl, rfl⟩
  | 3, .long x, _ => cases (show ty = .long from ht); exact ⟨rfl, rfl⟩
  | 7, .long x, _ => cases (show ty = .long from ht); exact ⟨rfl, rfl⟩
theorem cx_good {a : Nat} : GoodIn cx_tb (cx_ws (cx_m a)) := by
  intro w hw
  rcases List.mem_cons.mp hw with h | h
  · rw [h]
    exact ⟨(cx_m_ok a).1, good_of_word rfl⟩
  · exact ⟨h, good_of_word (cx_tb_good w h)⟩
set_option maxHeartbeats 4000000 in
set_option maxRecDepth 100000 in
/-- a call by a contract, the three kinds -/
theorem cx_call_ok {X : cx_X} {M : cx_M} {d mc ms : Nat} {Q : cx_Q} {k : cx_Q} (hM : cx_mo M) {i : Instr} {a b c x pc : Nat} {L : cx_L} {bs r : List Value} {w : cx_W} {u : cx_U} (hdec : decode (cx_b M) pc = .ok (i, 3))
    (hi : (i = .invokestatic x ∧ bs.length = b ∧ (cx_c M, x, a, b) ∈ cx_sl) ∨ (i = .invokevirtual x ∧ bs.length = b + 1 ∧ cx_rc bs w u.1 c ∧ (cx_c M, x, a, b, c) ∈ cx_vl) ∨ (i = .invokespecial x ∧ bs.length = b + 1 ∧ cx_rr bs ∧ (cx_c M, x, a, b) ∈ cx_pl))
    (hcs : cx_cs r ≤ 8) (h : cx_CS d mc ms a bs w u k) (hk : ∀ o w2 u2, k o w2 u2 → cx_OK X M d mc ms Q (pc + 3) L (cx_push o r) w2 u2) : cx_OK X M d mc ms Q pc L (bs.reverse ++ r) w u := by
  obtain ⟨d2, ce, sl, Q2, ⟨hd1, hd2, hmc, hms⟩, hMC, hgo⟩ := h
  intro p l e R s m args below meth c' F g D cA H locs ls C hI hP hS hl
  have hx := C.1.1
  have hb := C.1.2.1
  have hml := C.1.2.2.2.1
  have hown := C.1.2.2.2.2.1
  have hts := C.1.2.2.2.2.2.1
  have hK := C.2.1.1
  have hg := C.2.1.2.1
  obtain ⟨-, -, -, hRd, hRl, hRc, hRs⟩ := C.2.1
  have hMo := cx_m_ok a
  refine cx_size fun hz => ?_
  have hsz := cx_full hI hP hS hg hz
  have hblind : FrameBlind (va_Pc (bs.map (cx_v g)) (fun U => U.heap.size = g.1 + u.1 ∧ cx_P g D cA u.1 w U.heap ∧ va_K D cx_cl (cx_tys cA) U)) := fun a U g2 mk q => by
    obtain ⟨q0, q1, qP, qK⟩ := q
    exact ⟨q0, q1, qP, va_K.moved (u := U) (U := U.calling g2 mk a) (Vm.Alike.refl U.vm) qK⟩
  have hpre : ∀ U : State, U.heap = H → s.WarmedH U.vm → va_Pc (bs.map (cx_v g)) (fun U => U.heap.size = g.1 + u.1 ∧ cx_P g D cA u.1 w U.heap ∧ va_K D cx_cl (cx_tys cA) U) (bs.map (cx_v g)).toArray U := fun U hU hW => ⟨rfl, by rw [hU]; exact hsz, by rw [hU]; exact hP, va_K.moved hW.alike hK⟩
  have hrest : 2 * (F0 m pc ls ((bs.reverse ++ r).map (cx_v g))).monitorRoom + ((r.map (cx_v g)).map fun v => v.category).sum ≤ 8 := lv_room (by rw [cx_cs_eq]; exact hcs)
  have hfit : u.2.1 + ce ≤ R.cells ∧ u.2.2 + sl ≤ R.slots := ⟨Nat.le_trans hmc hRc, Nat.le_trans hms hRs⟩
  have hroom : (cx_rm d2 ce sl).frames + 1 ≤ R.frames ∧ 8 + (cx_n (cx_m a) + 11) + (cx_rm d2 ce sl).locals ≤ R.locals := ⟨Nat.le_trans hd1 hRd, Nat.le_trans hd2 hRl⟩
  have fin : va_Run p l e R s m args below meth c' H locs u.2.1 u.2.2 ce sl (F0 m pc ls ((bs.reverse ++ r).map (cx_v g))) (r.map (cx_v g)) (fun (st : State) (oc : Outcome) (t : State) => (∃ (r : Option Value) (w2 : cx_W), oc = .returned (r.map (cx_v g)) ∧ Q2 r w2 ∧ cx_P g D cA (u.1 + ce) w2 t.heap ∧ va_K D cx_cl (cx_tys cA) t) ∧ va_F (fun q => g.1 ≤ q) st t) (fun q => g.1 ≤ q) →
      W p l e R s m args below meth c' H locs u.2.1 u.2.2 F (F0 m pc ls ((bs.reverse ++ r).map (cx_v g))) := by
    intro hrun
    refine cx_back hrun (fun st v t h => h.2) hS (fun q h => h) fun v st t H1 locs1 ht hvm hq hS1 => ?_
    obtain ⟨⟨o, w2, ho, hQ, hP2, -⟩, -⟩ := hq
    have ho2 : v = o.map (cx_v g) := Outcome.returned.inj ho
    subst ho2
    rw [cx_push_eq]
    rw [ht] at hP2
    exact hk o w2 _ (hgo o w2 hQ) p l e R s m args below meth c' F g D cA H1 locs1 ls C (show s.heap.size + (u.2.1 + ce) = g.1 + (u.1 + ce) by omega) hP2 hS1 hl
  have hstack : (bs.reverse ++ r).map (cx_v g) = (bs.map (cx_v g)).reverse ++ r.map (cx_v g) := by rw [List.map_append, List.map_reverse]
  rcases hi with ⟨rfl, hlen, hin⟩ | ⟨rfl, hlen, hrc, hin⟩ | ⟨rfl, hlen, hrr, hin⟩
  · obtain ⟨hl1, hst, hini, hd⟩ := cx_sl_ok _ hin
    rw [hM.1] at hl1
    have cb := callB_of (R := R) (rm := cx_rm d2 ce sl) (bytes := cx_b (cx_m a)) (maxL := cx_n (cx_m a)) (ret := cx_r (cx_m a)) b hts (cx_good (a := a)) rfl rfl rfl (hts _ hini) (hts _ hl1) hd hroom
    exact fin (va_runS (y := cx_y (cx_m a)) (As := bs.map (cx_v g)) (rest := r.map (cx_v g)) ⟨hx, hb, hml, hown, hts⟩ (hMC l g D cA) ⟨cb, hts _ hst⟩ ⟨hblind, hpre⟩ rfl (by rw [List.length_map]; exact hlen) hl.1 hstack hrest hdec hfit)
  · cases bs with
    | nil => cases hlen
    | cons v0 vs =>
      cases v0 with
      | ref q =>
        obtain ⟨hq, hci⟩ := hrc
        obtain ⟨fs, he⟩ := cx_ci_e hci
        obtain ⟨D0, hcd, hcn, hl1, hinst, hsel, hini, hd⟩ := cx_vl_ok _ hin
        rw [hM.1] at hl1
        have cb := callB_of (R := R) (rm := cx_rm d2 ce sl) (bytes := cx_b (cx_m a)) (maxL := cx_n (cx_m a)) (ret := cx_r (cx_m a)) b hts (cx_good (a := a)) rfl rfl rfl (hts _ hini) (hts _ hl1) hd hroom
        have hcell : (cx_w g cA u.1 w)[q]? = some (cx_ad g q, .inr (c, fs.map (cx_v g))) := by
          rw [cx_w_at hq, he]
          rfl
        have hrecv := va_recv hK hP.2 (cx_cl_at hcd) hcell
        refine fin (va_runV (y := cx_y (cx_m a)) (C := (cx_y (cx_m a)).cls) (b := cx_ad g q) (As := vs.map (cx_v g)) (rest := r.map (cx_v g)) ⟨hx, hb, hml, hown, hts⟩ (hMC l g D cA) ⟨cb, hts _ hinst, hts _ hsel⟩ ⟨hblind, ?_, hpre⟩ rfl (by rw [List.length_map]; simpa using hlen) hl.1 ?_ hrest hdec hfit)
        · rw [← hcn]
          exact hrecv
        · show (((Value.ref q :: vs).reverse ++ r).map (cx_v g)) = _
          rw [hstack]
          simp [cx_v]
      | _ => exact hrc.elim
  · cases bs with
    | nil => cases hlen
    | cons v0 vs =>
      cases v0 with
      | ref q =>
        obtain ⟨hl1, hinst, hini, hnm, hrt, hd⟩ := cx_pl_ok _ hin
        rw [hM.1] at hl1
        have cb := callB_of (R := R) (rm := cx_rm d2 ce sl) (bytes := cx_b (cx_m a)) (maxL := cx_n (cx_m a)) (ret := cx_r (cx_m a)) b hts (cx_good (a := a)) rfl rfl rfl (hts _ hini) (hts _ hl1) hd hroom
        rw [hrt] at cb
        refine fin (va_runI (y := cx_y (cx_m a)) (b := cx_ad g q) (As := vs.map (cx_v g)) (rest := r.map (cx_v g)) ⟨hx, hb, hml, hown, hts⟩ (hMC l g D cA) ⟨cb, hnm, hts _ hinst⟩ ⟨hblind, hpre⟩ rfl (by rw [List.length_map]; simpa using hlen) hl.1 ?_ hrest hdec hfit)
        show (((Value.ref q :: vs).reverse ++ r).map (cx_v g)) = _
        rw [hstack]
        simp [cx_v]
      | _ => exact hrr.elim
set_option maxHeartbeats 8000000 in
set_option maxRecDepth 100000 in
/-- each instruction's condition is a step of the machine -/
theorem cx_step_ok {X : cx_X} {M : cx_M} {d mc ms : Nat} {call : Nat → List Value → cx_W → cx_U → cx_Q → Prop} {Q : cx_Q} {k : cx_K} (hM : cx_mo M) {i : Instr} {a b c : Nat} {v : Int32} {pc : Nat} {L : cx_L} {st : List Value} {w : cx_W} {u : cx_U} (hrow : cx_row M (pc, i, a, b, c, v) = true)
    (hcall : ∀ a as w u k, call a as w u k → cx_CS d mc ms a as w u k) (h : cx_step cx_dfl X d mc ms call i a b c v pc L st w u Q k) (hk : ∀ pc L st w u, k pc L st w u → cx_OK X M d mc ms Q pc L st w u) : cx_OK X M d mc ms Q pc L st w u := by
  have hrow2 : cx_dec M pc i = true ∧ cx_arg M pc i a b c v = true := Bool.and_eq_true_iff.mp hrow
  obtain ⟨hdc, har⟩ := hrow2
  intro p l e R s m args below meth c' F g D cA H locs ls C hI hP hS hl
  have hx := C.1.1
  have hb := C.1.2.1
  have hml := C.1.2.2.2.1
  have hown := C.1.2.2.2.2.1
  have hts := C.1.2.2.2.2.2.1
  have hK := C.2.1.1
  have hg := C.2.1.2.1
  have hX := C.2.1.2.2.1
  obtain ⟨-, -, -, hRd, hRl, hRc, hRs⟩ := C.2.1
  have hA : ∀ q : Nat, s.heap.size ≤ q → g.1 ≤ q := fun q hq => Nat.le_trans hg hq
  have go : ∀ pc L st w, k pc L st w u → ∀ H locs ls, cx_P g D cA u.1 w H → va_S (fun q => g.1 ≤ q) s.heap H locs → lv_has ls (cx_n M) (cx_al g L) → W p l e R s m args below meth c' H locs u.2.1 u.2.2 F (F0 m pc ls (st.map (cx_v g))) := fun pc L st w h1 H locs ls hP hS hl => hk pc L st w u h1 p l e R s m args below meth c' F g D cA H locs ls C hI hP hS hl
  cases i with
  | iconst n => exact lv_iconst hx hb (of_decide_eq_true hdc) (of_decide_eq_true har) (go _ _ _ _ h _ _ _ hP hS hl)
  | bipush n => exact lv_bipush hx hb (of_decide_eq_true hdc) (of_decide_eq_true har) (go _ _ _ _ h _ _ _ hP hS hl)
  | sipush n => exact lv_sipush hx hb (of_decide_eq_true hdc) (of_decide_eq_true har) (go _ _ _ _ h _ _ _ hP hS hl)
  | ldc x =>
    have h2 := cx_kl_ok _ (of_decide_eq_true har)
    rw [hM.1] at h2
    exact lv_ldc hx hb hown (hts _ h2) (of_decide_eq_true hdc) (go _ _ _ _ h _ _ _ hP hS hl)
  | ldc2_w x =>
    have h2 := cx_ql_ok _ (of_decide_eq_true har)
    rw [hM.1] at h2
    exact lv_ldc2 hx hb hown (hts _ h2) (of_decide_eq_true hdc) (go _ _ _ _ h _ _ _ hP hS hl)
  | lconst n =>
    exact lv_lconst hx hb (of_decide_eq_true hdc) (of_decide_eq_true har) (go _ _ _ _ h _ _ _ hP hS hl)
  | iload n =>
    obtain ⟨x, hv, h9⟩ := cx_gi_e h
    have h2 : n = a := of_decide_eq_true har
    subst h2
    exact lv_iload hx hb (of_decide_eq_true hdc) (cx_ld hl hv) (go _ _ _ _ h9 _ _ _ hP hS hl)
  | iload_n n =>
    obtain ⟨x, hv, h⟩ := cx_gi_e h
    have h2 : (n : Nat) = a := of_decide_eq_true har
    exact lv_iload_n hx hb (of_decide_eq_true hdc) h2 (cx_ld hl hv) (go _ _ _ _ h _ _ _ hP hS hl)
  | lload n =>
    obtain ⟨x, hv, h9⟩ := cx_gl_e h
    have h2 : n = a := of_decide_eq_true har
    subst h2
    exact lv_lload hx hb (of_decide_eq_true hdc) (cx_ld hl hv) (go _ _ _ _ h9 _ _ _ hP hS hl)
  | lload_n n =>
    obtain ⟨x, hv, h⟩ := cx_gl_e h
    have h2 : (n : Nat) = a := of_decide_eq_true har
    exact lv_lload_n hx hb (of_decide_eq_true hdc) h2 (cx_ld hl hv) (go _ _ _ _ h _ _ _ hP hS hl)
  | aload n =>
    obtain ⟨x, hv, h9⟩ := cx_gr_e h
    have h2 : n = a := of_decide_eq_true har
    subst h2
    exact lv_aload hx hb (of_decide_eq_true hdc) (cx_ld hl hv) (go _ _ _ _ h9 _ _ _ hP hS hl)
  | aload_n n =>
    obtain ⟨x, hv, h⟩ := cx_gr_e h
    have h2 : (n : Nat) = a := of_decide_eq_true har
    exact lv_aload_n hx hb (of_decide_eq_true hdc) h2 (cx_ld hl hv) (go _ _ _ _ h _ _ _ hP hS hl)
  | istore n =>
    obtain ⟨x, r, rfl, h9⟩ := cx_i1_e h
    obtain ⟨h2, h3⟩ : n = a ∧ a < cx_n M := of_decide_eq_true har
    subst h2
    exact lv_istore hx hb (of_decide_eq_true hdc) hl h3 rfl fun ls2 hl2 => go _ _ _ _ h9 _ _ _ hP hS (cx_st1 (v := .int x) hl2)
  | istore_n n =>
    obtain ⟨x, r, rfl, h⟩ := cx_i1_e h
    obtain ⟨h2, h3⟩ : (n : Nat) = a ∧ a < cx_n M := of_decide_eq_true har
    exact lv_istore_n hx hb (of_decide_eq_true hdc) h2 hl h3 rfl fun ls2 hl2 => go _ _ _ _ h _ _ _ hP hS (cx_st1 (v := .int x) hl2)
  | astore n =>
    obtain ⟨x, r, rfl, h9⟩ := cx_r1_e h
    obtain ⟨h2, h3⟩ : n = a ∧ a < cx_n M := of_decide_eq_true har
    subst h2
    exact lv_astore hx hb (of_decide_eq_true hdc) hl h3 rfl fun ls2 hl2 => go _ _ _ _ h9 _ _ _ hP hS (cx_st1 (v := .ref x) hl2)
  | astore_n n =>
    obtain ⟨x, r, rfl, h⟩ := cx_r1_e h
    obtain ⟨h2, h3⟩ : (n : Nat) = a ∧ a < cx_n M := of_decide_eq_true har
    exact lv_astore_n hx hb (of_decide_eq_true hdc) h2 hl h3 rfl fun ls2 hl2 => go _ _ _ _ h _ _ _ hP hS (cx_st1 (v := .ref x) hl2)
  | lstore n =>
    obtain ⟨x, r, rfl, h9⟩ := cx_l1_e h
    obtain ⟨h2, h3⟩ : n = a ∧ a + 1 < cx_n M := of_decide_eq_true har
    subst h2
    exact lv_lstore hx hb (of_decide_eq_true hdc) hl h3 rfl fun ls2 hl2 => go _ _ _ _ h9 _ _ _ hP hS (cx_st2 (v := .long x) hl2)
  | lstore_n n =>
    obtain ⟨x, r, rfl, h⟩ := cx_l1_e h
    obtain ⟨h2, h3⟩ : (n : Nat) = a ∧ a + 1 < cx_n M := of_decide_eq_true har
    exact lv_lstore_n hx hb (of_decide_eq_true hdc) h2 hl h3 rfl fun ls2 hl2 => go _ _ _ _ h _ _ _ hP hS (cx_st2 (v := .long x) hl2)
  | iinc n z =>
    obtain ⟨x, hv, h9⟩ := cx_gi_e h
    obtain ⟨h2, h3, h4⟩ : n = a ∧ a < cx_n M ∧ Int32.ofInt z = v := of_decide_eq_true har
    subst h2
    obtain ⟨j, hj⟩ := cx_ldk (g := g) hv
    exact lv_iinc (x := x) (v := x + v) hx hb (of_decide_eq_true hdc) hl hj (by rw [h4]) h3 rfl fun ls2 hl2 => go _ _ _ _ h9 _ _ _ hP hS (cx_st1 (v := .int (x + v)) hl2)
  | iadd =>
    obtain ⟨x, y, r, rfl, h⟩ := cx_i2_e h
    exact lv_iadd hx hb (of_decide_eq_true hdc) (go _ _ _ _ h _ _ _ hP hS hl)
  | isub =>
    obtain ⟨x, y, r, rfl, h⟩ := cx_i2_e h
    exact lv_isub hx hb (of_decide_eq_true hdc) (go _ _ _ _ h _ _ _ hP hS hl)
  | imul =>
    obtain ⟨x, y, r, rfl, h⟩ := cx_i2_e h
    exact lv_imul hx hb (of_decide_eq_true hdc) (go _ _ _ _ h _ _ _ hP hS hl)
  | iand =>
    obtain ⟨x, y, r, rfl, h⟩ := cx_i2_e h
    exact lv_iand hx hb (of_decide_eq_true hdc) (go _ _ _ _ h _ _ _ hP hS hl)
  | ior =>
    obtain ⟨x, y, r, rfl, h⟩ := cx_i2_e h
    exact lv_ior hx hb (of_decide_eq_true hdc) (go _ _ _ _ h _ _ _ hP hS hl)
  | ixor =>
    obtain ⟨x, y, r, rfl, h⟩ := cx_i2_e h
    exact lv_ixor hx hb (of_decide_eq_true hdc) (go _ _ _ _ h _ _ _ hP hS hl)
  | ishl =>
    obtain ⟨x, y, r, rfl, h⟩ := cx_i2_e h
    exact lv_ishl hx hb (of_decide_eq_true hdc) (go _ _ _ _ h _ _ _ hP hS hl)
  | ishr =>
    obtain ⟨x, y, r, rfl, h⟩ := cx_i2_e h
    exact lv_ishr hx hb (of_decide_eq_true hdc) (go _ _ _ _ h _ _ _ hP hS hl)
  | idiv =>
    obtain ⟨x, y, r, rfl, hne, h⟩ := cx_i2_e h
    exact lv_idiv hx hb (of_decide_eq_true hdc) hne (go _ _ _ _ h _ _ _ hP hS hl)
  | irem =>
    obtain ⟨x, y, r, rfl, hne, h⟩ := cx_i2_e h
    exact lv_irem hx hb (of_decide_eq_true hdc) hne (go _ _ _ _ h _ _ _ hP hS hl)
  | ladd =>
    obtain ⟨x, y, r, rfl, h⟩ := cx_l2_e h
    exact lv_ladd hx hb (of_decide_eq_true hdc) (go _ _ _ _ h _ _ _ hP hS hl)
  | lsub =>
    obtain ⟨x, y, r, rfl, h⟩ := cx_l2_e h
    exact lv_lsub hx hb (of_decide_eq_true hdc) (go _ _ _ _ h _ _ _ hP hS hl)
  | lmul =>
    obtain ⟨x, y, r, rfl, h⟩ := cx_l2_e h
    exact lv_lmul hx hb (of_decide_eq_true hdc) (go _ _ _ _ h _ _ _ hP hS hl)
  | land =>
    obtain ⟨x, y, r, rfl, h⟩ := cx_l2_e h
    exact lv_land hx hb (of_decide_eq_true hdc) (go _ _ _ _ h _ _ _ hP hS hl)
  | lor =>
    obtain ⟨x, y, r, rfl, h⟩ := cx_l2_e h
    exact lv_lor hx hb (of_decide_eq_true hdc) (go _ _ _ _ h _ _ _ hP hS hl)
  | lshl =>
    obtain ⟨x, y, r, rfl, h⟩ := cx_il_e h
    exact lv_lshl hx hb (of_decide_eq_true hdc) rfl (go _ _ _ _ h _ _ _ hP hS hl)
  | lshr =>
    obtain ⟨x, y, r, rfl, h⟩ := cx_il_e h
    exact lv_lshr hx hb (of_decide_eq_true hdc) rfl (go _ _ _ _ h _ _ _ hP hS hl)
  | ifCond o z =>
    obtain ⟨x, r, rfl, h⟩ := cx_i1_e h
    have ht : (pc : Int) + z = (a : Int) := of_decide_eq_true har
    cases o with
    | ne => exact lv_if_ne hx hb (of_decide_eq_true hdc) ht (fun q => go _ _ _ _ (h.2 q) _ _ _ hP hS hl) (fun q => go _ _ _ _ (h.1 q) _ _ _ hP hS hl)
    | eq => exact lv_if_eq hx hb (of_decide_eq_true hdc) ht (fun q => go _ _ _ _ (h.1 q) _ _ _ hP hS hl) (fun q => go _ _ _ _ (h.2 q) _ _ _ hP hS hl)
    | lt => exact lv_if_lt hx hb (of_decide_eq_true hdc) ht (fun q => go _ _ _ _ (h.1 q) _ _ _ hP hS hl) (fun q => go _ _ _ _ (h.2 q) _ _ _ hP hS hl)
    | ge => exact lv_if_ge hx hb (of_decide_eq_true hdc) ht (fun q => go _ _ _ _ (h.1 q) _ _ _ hP hS hl) (fun q => go _ _ _ _ (h.2 q) _ _ _ hP hS hl)
    | gt => exact lv_if_gt hx hb (of_decide_eq_true hdc) ht (fun q => go _ _ _ _ (h.1 q) _ _ _ hP hS hl) (fun q => go _ _ _ _ (h.2 q) _ _ _ hP hS hl)
    | le => exact lv_if_le hx hb (of_decide_eq_true hdc) ht (fun q => go _ _ _ _ (h.1 q) _ _ _ hP hS hl) (fun q => go _ _ _ _ (h.2 q) _ _ _ hP hS hl)
  | if_icmp o z =>
    obtain ⟨x, y, r, rfl, h⟩ := cx_i2_e h
    have ht : (pc : Int) + z = (a : Int) := of_decide_eq_true har
    cases o with
    | ne => exact lv_icmp_ne hx hb (of_decide_eq_true hdc) ht (fun q => go _ _ _ _ (h.2 q) _ _ _ hP hS hl) (fun q => go _ _ _ _ (h.1 q) _ _ _ hP hS hl)
    | eq => exact lv_icmp_eq hx hb (of_decide_eq_true hdc) ht (fun q => go _ _ _ _ (h.1 q) _ _ _ hP hS hl) (fun q => go _ _ _ _ (h.2 q) _ _ _ hP hS hl)
    | lt => exact lv_icmp_lt hx hb (of_decide_eq_true hdc) ht (fun q => go _ _ _ _ (h.1 q) _ _ _ hP hS hl) (fun q => go _ _ _ _ (h.2 q) _ _ _ hP hS hl)
    | ge => exact lv_icmp_ge hx hb (of_decide_eq_true hdc) ht (fun q => go _ _ _ _ (h.1 q) _ _ _ hP hS hl) (fun q => go _ _ _ _ (h.2 q) _ _ _ hP hS hl)
    | gt => exact lv_icmp_gt hx hb (of_decide_eq_true hdc) ht (fun q => go _ _ _ _ (h.1 q) _ _ _ hP hS hl) (fun q => go _ _ _ _ (h.2 q) _ _ _ hP hS hl)
    | le => exact lv_icmp_le hx hb (of_decide_eq_true hdc) ht (fun q => go _ _ _ _ (h.1 q) _ _ _ hP hS hl) (fun q => go _ _ _ _ (h.2 q) _ _ _ hP hS hl)
  | lcmp =>
    obtain ⟨x, y, r, rfl, h⟩ := cx_l2_e h
    exact W.lcmp hx hb (of_decide_eq_true hdc) (go _ _ _ _ h _ _ _ hP hS hl)
  | i2l =>
    obtain ⟨x, r, rfl, h⟩ := cx_i1_e h
    exact lv_i2l hx hb (of_decide_eq_true hdc) rfl (go _ _ _ _ h _ _ _ hP hS hl)
  | l2i =>
    obtain ⟨x, r, rfl, h⟩ := cx_l1_e h
    exact lv_l2i hx hb (of_decide_eq_true hdc) rfl (go _ _ _ _ h _ _ _ hP hS hl)
  | dup =>
    have h8 : cx_d1 st fun x r => k (pc + 1) L (x :: x :: r) w u := h
    obtain ⟨x, r, rfl, hc, h⟩ := cx_d1_e h8
    exact lv_dup hx hb (of_decide_eq_true hdc) ((cx_cat g x).trans hc) (go _ _ _ _ h _ _ _ hP hS hl)
  | dup_x1 =>
    have h8 : cx_d1 st fun x r => cx_d1 r fun y r2 => k (pc + 1) L (x :: y :: x :: r2) w u := h
    obtain ⟨x, r, rfl, hc, h⟩ := cx_d1_e h8
    obtain ⟨y, r2, rfl, hc2, h⟩ := cx_d1_e h
    exact lv_dup_x1 hx hb (of_decide_eq_true hdc) ((cx_cat g x).trans hc) ((cx_cat g y).trans hc2) (go _ _ _ _ h _ _ _ hP hS hl)
  | dup2 =>
    have h8 : cx_d1 st fun x r => cx_d1 r fun y r2 => k (pc + 1) L (x :: y :: x :: y :: r2) w u := h
    obtain ⟨x, r, rfl, hc, h⟩ := cx_d1_e h8
    obtain ⟨y, r2, rfl, hc2, h⟩ := cx_d1_e h
    exact lv_dup2_11 hx hb (of_decide_eq_true hdc) ((cx_cat g x).trans hc) ((cx_cat g y).trans hc2) (go _ _ _ _ h _ _ _ hP hS hl)
  | goto z =>
    have ht : (pc : Int) + z = (a : Int) := of_decide_eq_true har
    exact lv_goto hx hb (of_decide_eq_true hdc) ht (go _ _ _ _ h _ _ _ hP hS hl)
  | tableswitch df lo hi offs =>
    obtain ⟨x, r, rfl, h1, h2⟩ := cx_i1_e h
    obtain ⟨len, hd⟩ := cx_dec_t hdc
    obtain ⟨ht, hall⟩ : (pc : Int) + df = (a : Int) ∧ cx_offs pc lo hi offs = true := of_decide_eq_true har
    by_cases q1 : x.toInt < lo
    · exact lv_tableOut hx hb hd (Or.inl q1) ht (go _ _ _ _ (h1 (Or.inl q1)) _ _ _ hP hS hl)
    · by_cases q2 : hi < x.toInt
      · exact lv_tableOut hx hb hd (Or.inr q2) ht (go _ _ _ _ (h1 (Or.inr q2)) _ _ _ hP hS hl)
      · obtain ⟨o, t, ho, ht2⟩ := cx_offs_e hall q1 q2
        exact lv_tableIn hx hb hd q1 q2 ho ht2 (go _ _ _ _ (h2 o t q1 q2 ho ht2) _ _ _ hP hS hl)
  | ireturn =>
    obtain ⟨x, r, rfl, rfl, h01, hc, hs, hq⟩ := cx_i1_e h
    have h2 : (c = 0 ∧ cx_r M = some .int) ∨ (c = 1 ∧ cx_r M = some .boolean) := of_decide_eq_true har
    exact C.2.2 (some (.int x)) w u H locs pc ls hq (by
      rcases h2 with ⟨-, q⟩ | ⟨q1, q⟩
      · exact Or.inl q
      · exact Or.inr ⟨q, h01 q1⟩) hI hP hS hc hs (show decode (cx_b M) pc = .ok (.ireturn, 1) from of_decide_eq_true hdc)
  | lreturn =>
    obtain ⟨x, r, rfl, rfl, hc, hs, hq⟩ := cx_l1_e h
    have h2 : cx_r M = some .long := of_decide_eq_true har
    exact C.2.2 (some (.long x)) w u H locs pc ls hq h2 hI hP hS hc hs (show decode (cx_b M) pc = .ok (.lreturn, 1) from of_decide_eq_true hdc)
  | return_ =>
    obtain ⟨rfl, hc, hs, hq⟩ := h
    have h2 : cx_r M = none := of_decide_eq_true har
    exact C.2.2 none w u H locs pc ls hq h2 hI hP hS hc hs (show decode (cx_b M) pc = .ok (.return_, 1) from of_decide_eq_true hdc)
  | getfield x =>
    obtain ⟨q, r, rfl, hq, h⟩ := cx_r1_e h
    obtain ⟨y, hy, h⟩ := cx_o_e h
    obtain ⟨fs, he, hf⟩ := cx_f_e hy
    obtain ⟨D0, hcd, hbN, hlink, -⟩ := cx_fl_ok _ (of_decide_eq_true har)
    obtain ⟨hws, hty, hnm, -⟩ := cx_cd_ok a D0 hcd
    rw [hM.1] at hlink
    have hcell : (cx_w g cA u.1 w)[q]? = some (cx_ad g q, .inr (a, fs.map (cx_v g))) := by
      rw [cx_w_at hq, he]
      rfl
    exact va_get (D := D) (ci := a) (v := cx_v g y) (C := D0.1) (T := D0.2.1) (N := D0.2.2.1) hx hb hts hws hown hK hP.2 q hcell (cx_cl_at hcd) b hbN (hts _ hlink) (fun _ h9 => h9) (by rw [List.getElem?_map, hf]; rfl) (of_decide_eq_true hdc) (go _ _ _ _ h _ _ _ hP hS hl)
  | putfield x =>
    obtain ⟨q, y, r, rfl, hq, hpf, h⟩ := cx_vr_e h
    obtain ⟨e2, hy, h⟩ := cx_o_e h
    obtain ⟨fs, he, hlen, rfl⟩ := cx_fs_e hy
    obtain ⟨hin, hini⟩ : (cx_c M, x, a, b, c) ∈ cx_fl ∧ (4 ≤ c → (cx_y M).name = "<init>") := of_decide_eq_true har
    obtain ⟨D0, hcd, hbN, hlink, hft, hnf, hfn⟩ := cx_fl_ok _ hin
    obtain ⟨hws, hty, hnm, -⟩ := cx_cd_ok a D0 hcd
    rw [hM.1] at hlink
    have hcell : (cx_w g cA u.1 w)[q]? = some (cx_ad g q, .inr (a, fs.map (cx_v g))) := by
      rw [cx_w_at hq, he]
      rfl
    obtain ⟨hn1, hn2⟩ := cx_pf_ok (g := g) hpf hft
    have kk : ∀ (H1 : Heap) (locs1 : List Loc), va_P D cx_cl ((cx_w g cA u.1 w).set q (cx_ad g q, .inr (a, (fs.map (cx_v g)).set b (cx_v g y)))) H1 → va_S (fun q => g.1 ≤ q) s.heap H1 locs1 → W p l e R s m args below meth c' H1 locs1 u.2.1 u.2.2 F (F0 m (pc + 3) ls (r.map (cx_v g))) := by
      intro H1 locs1 hP1 hS1
      have e3 : (cx_w g cA u.1 w).set q (cx_ad g q, .inr (a, (fs.map (cx_v g)).set b (cx_v g y))) = cx_w g cA u.1 (cx_up w q (.inr (a, fs.set b y))) := by
        rw [← cx_w_set]
        show _ = (cx_w g cA u.1 w).set q (cx_ad g q, .inr (a, (fs.set b y).map (cx_v g)))
        rw [List.map_set]
      rw [e3] at hP1
      exact go _ _ _ _ h _ _ _ ⟨hP.1, hP1⟩ hS1 hl
    by_cases h4 : 4 ≤ c
    · obtain ⟨hf1, hf2⟩ := hfn h4
      rw [hM.1] at hf2
      exact va_putF (D := D) (ci := a) (v := cx_v g y) (C := D0.1) (T := D0.2.1) (N := D0.2.2.1) hx hb hts hws D0.2.2.2 hty hnm hown hK hP.2 (cx_w_D hP.1) hS q hcell (cx_cl_at hcd) b hbN (hts _ hlink) (fun _ h9 => h9) hf1 (C.1.2.2.2.2.2.2 (hini h4)) hf2 (hty b hbN) hn1 hn2 (by rw [List.length_map]; exact hlen) (of_decide_eq_true hdc) (fun H1 locs1 hP1 _ hS1 => kk H1 locs1 hP1 hS1)
    · exact va_put (D := D) (ci := a) (v := cx_v g y) (C := D0.1) (T := D0.2.1) (N := D0.2.2.1) hx hb hts hws D0.2.2.2 hty hnm hown hK hP.2 (cx_w_D hP.1) hS q hcell (cx_cl_at hcd) b hbN (hts _ hlink) (fun _ h9 => h9) (hnf (show c < 4 by omega)) (hty b hbN) hn1 hn2 (by rw [List.length_map]; exact hlen) (of_decide_eq_true hdc) (fun H1 locs1 hP1 _ hS1 => kk H1 locs1 hP1 hS1)
  | iaload =>
    obtain ⟨q, j, r, rfl, h⟩ := cx_ir_e h
    obtain ⟨z, hz, hin, h9⟩ := cx_o_e h
    unfold cx_sa at hz
    by_cases h1 : q = 1000000
    · rw [if_pos h1] at hz
      obtain ⟨hX1, hX2⟩ := hX z hz
      subst h1
      exact va_sld (A := fun q => g.1 ≤ q) (b := g.2) hx hb hX1 (Nat.lt_of_lt_of_le hX2 hg) (fun q => by have : g.1 ≤ g.2 := q; omega) hS hin (of_decide_eq_true hdc) (go _ _ _ _ h9 _ _ _ hP hS hl)
    · rw [if_neg h1] at hz
      by_cases h2 : q < u.1
      · rw [if_pos h2] at hz
        have he := cx_ia_e hz
        exact va_iald hx hb hK hP.2 q 0 (cA := cA 0) (by rw [cx_w_at h2, he]; rfl) rfl hin (of_decide_eq_true hdc) (go _ _ _ _ h9 _ _ _ hP hS hl)
      · rw [if_neg h2] at hz
        cases hz
  | arraylength =>
    obtain ⟨q, r, rfl, h⟩ := cx_r1_e h
    obtain ⟨z, hz, h9⟩ := cx_o_e h
    unfold cx_sa at hz
    by_cases h1 : q = 1000000
    · rw [if_pos h1] at hz
      obtain ⟨hX1, hX2⟩ := hX z hz
      subst h1
      exact va_slen (A := fun q => g.1 ≤ q) (b := g.2) hx hb hX1 (Nat.lt_of_lt_of_le hX2 hg) (fun q => by have : g.1 ≤ g.2 := q; omega) hS (of_decide_eq_true hdc) (go _ _ _ _ h9 _ _ _ hP hS hl)
    · rw [if_neg h1] at hz
      by_cases h2 : q < u.1
      · rw [if_pos h2] at hz
        have he := cx_ia_e hz
        exact va_alen hx hb hK hP.2 q 0 (cA := cA 0) (x := (z.1, .inl z.2)) (by rw [cx_w_at h2, he]; rfl) (ty := .int) rfl rfl (of_decide_eq_true hdc) (go _ _ _ _ h9 _ _ _ hP hS hl)
      · rw [if_neg h2] at hz
        cases hz
  | laload =>
    obtain ⟨q, j, r, rfl, hq, h⟩ := cx_ir_e h
    obtain ⟨z, hz, hin, h⟩ := cx_o_e h
    have he := cx_la_e hz
    exact va_lald hx hb hK hP.2 q 1 (cA := cA 1) (by rw [cx_w_at hq, he]; rfl) rfl hin (of_decide_eq_true hdc) (go _ _ _ _ h _ _ _ hP hS hl)
  | baload =>
    obtain ⟨q, j, r, rfl, hq, h⟩ := cx_ir_e h
    obtain ⟨z, hz, hin, h⟩ := cx_o_e h
    have he := cx_za_e hz
    exact va_zald hx hb hK hP.2 q 2 (cA := cA 2) (by rw [cx_w_at hq, he]; rfl) rfl hin (of_decide_eq_true hdc) (go _ _ _ _ h _ _ _ hP hS hl)
  | iastore =>
    obtain ⟨q, j, x, r, rfl, hq, h⟩ := cx_iir_e h
    obtain ⟨z, hz, hin, h⟩ := cx_o_e h
    have he := cx_ia_e hz
    exact va_iast hx hb hK hP.2 (cx_w_D hP.1) hS q 0 (cA := cA 0) (by rw [cx_w_at hq, he]; rfl) rfl hin (of_decide_eq_true hdc) (fun H1 locs1 hP1 _ hS1 => go _ _ _ _ h _ _ _ ⟨hP.1, by rw [← cx_w_set]; exact hP1⟩ hS1 hl)
  | lastore =>
    obtain ⟨q, j, x, r, rfl, hq, h⟩ := cx_lir_e h
    obtain ⟨z, hz, hin, h⟩ := cx_o_e h
    have he := cx_la_e hz
    exact va_last hx hb hK hP.2 (cx_w_D hP.1) hS q 1 (cA := cA 1) (by rw [cx_w_at hq, he]; rfl) rfl hin (of_decide_eq_true hdc) (fun H1 locs1 hP1 _ hS1 => go _ _ _ _ h _ _ _ ⟨hP.1, by rw [← cx_w_set]; exact hP1⟩ hS1 hl)
  | bastore =>
    obtain ⟨q, j, x, r, rfl, hq, h⟩ := cx_iir_e h
    obtain ⟨z, hz, hin, h01, h⟩ := cx_o_e h
    have he := cx_za_e hz
    have hn : vp_nar .boolean x = x := by rcases h01 with rfl | rfl <;> rfl
    exact va_zast hx hb hK hP.2 (cx_w_D hP.1) hS q 2 (cA := cA 2) (by rw [cx_w_at hq, he]; rfl) rfl hin (of_decide_eq_true hdc) (fun H1 locs1 hP1 _ hS1 => go _ _ _ _ h _ _ _ ⟨hP.1, by rw [← cx_w_set]; rw [hn] at hP1; exact hP1⟩ hS1 hl)
  | newarray t =>
    obtain ⟨n, r, rfl, hn, hby, hmc, hms, hu, h⟩ := cx_i1_e h
    have fin : ∀ (q : Nat) (H1 : Heap), va_P D cx_cl (cx_w g cA u.1 w ++ [(q, cx_e g cA (cx_new a n.toNatClampNeg))]) H1 → va_D (fun q => g.1 ≤ q) (cx_w g cA u.1 w ++ [(q, cx_e g cA (cx_new a n.toNatClampNeg))]) → va_S (fun q => g.1 ≤ q) s.heap H1 locs →
        W p l e R s m args below meth c' H1 locs (u.2.1 + 1) (u.2.2 + n.toNatClampNeg) F (F0 m (pc + 2) ls (.ref q :: r.map (cx_v g))) := by
      intro q H1 hP1 hD1 hS1
      refine cx_size fun hz => ?_
      have hq := cx_newq hI hu hP1 hD1 hz
      subst hq
      rw [cx_w_push hu] at hP1
      have h9 := hk _ _ _ _ _ h p l e R s m args below meth c' F g D cA H1 locs ls C (show s.heap.size + (u.2.1 + 1) = g.1 + (u.1 + 1) by omega) ⟨hu, hP1⟩ hS1 hl
      have e9 : (Value.ref u.1 :: r).map (cx_v g) = .ref (g.1 + u.1) :: r.map (cx_v g) := by
        show Value.ref (cx_ad g u.1) :: r.map (cx_v g) = _
        unfold cx_ad
        rw [if_neg (by omega)]
      rw [e9] at h9
      exact h9
    have same : ∀ (ty : FieldType) (j : Nat) (cA2 : ClassId), (cx_tys cA)[j]? = some (cA j, ty) → (ty = .int ∨ ty = .long ∨ ty = .boolean) → va_K D cx_cl (cx_tys cA ++ [(cA2, ty)]) s → cA2 = cA j := by
      intro ty j cA2 hj hty hK2
      have h1 := (hK.2 j _ hj).2
      have h2 := (hK2.2 3 (cA2, ty) rfl).2
      rcases hty with rfl | rfl | rfl <;> exact Option.some.inj (h2.symm.trans h1)
    have ht : (t = .int ∧ a = 0) ∨ (t = .long ∧ a = 1) ∨ (t = .boolean ∧ a = 2) := of_decide_eq_true har
    have hcells : u.2.1 + 1 ≤ R.cells := Nat.le_trans hmc hRc
    have hslots : u.2.2 + n.toNatClampNeg ≤ R.slots := Nat.le_trans hms hRs
    rcases ht with ⟨rfl, rfl⟩ | ⟨rfl, rfl⟩ | ⟨rfl, rfl⟩
    · refine va_newa (atype := .int) (ty := .int) (a0 := (n.toNatClampNeg, .inl fun _ => 0)) hx hb (hts _ cx_arr_i) rfl hK hP.2 (cx_w_D hP.1) hS hA (fun _ => rfl) hn rfl (by show n.toNatClampNeg * 4 ≤ _; omega) hcells hslots (of_decide_eq_true hdc) fun q cA2 H1 hK2 hP1 hD1 hS1 => ?_
      have h5 := same .int 0 cA2 rfl (Or.inl rfl) hK2
      subst h5
      exact fin q H1 hP1 hD1 hS1
    · refine va_newa (atype := .long) (ty := .long) (a0 := (n.toNatClampNeg, .inr (.inl fun _ => 0))) hx hb (hts _ cx_arr_l) rfl hK hP.2 (cx_w_D hP.1) hS hA (fun _ => rfl) hn rfl (by show n.toNatClampNeg * 8 ≤ _; omega) hcells hslots (of_decide_eq_true hdc) fun q cA2 H1 hK2 hP1 hD1 hS1 => ?_
      have h5 := same .long 1 cA2 rfl (Or.inr (Or.inl rfl)) hK2
      subst h5
      exact fin q H1 hP1 hD1 hS1
    · refine va_newa (atype := .boolean) (ty := .boolean) (a0 := (n.toNatClampNeg, .inl fun _ => 0)) hx hb (hts _ cx_arr_z) rfl hK hP.2 (cx_w_D hP.1) hS hA (fun _ => rfl) hn rfl (by show n.toNatClampNeg * 1 ≤ _; omega) hcells hslots (of_decide_eq_true hdc) fun q cA2 H1 hK2 hP1 hD1 hS1 => ?_
      have h5 := same .boolean 2 cA2 rfl (Or.inr (Or.inr rfl)) hK2
      subst h5
      exact fin q H1 hP1 hD1 hS1
  | new x =>
    obtain ⟨hmc, hms, hu, h⟩ := h
    obtain ⟨D0, hcd, hlink⟩ := cx_nl_ok _ (of_decide_eq_true har)
    obtain ⟨hws, hty, hnm, hinst, hini, hdl, hdf⟩ := cx_cd_ok a D0 hcd
    rw [hM.1] at hlink
    rw [hdl] at hms h
    refine va_new (ci := a) (fs := (cx_dfl a).map (cx_v g)) (C := D0.1) (T := D0.2.1) (N := D0.2.2.1) hx hb hts hws D0.2.2.2 hty hown (hts _ hlink) (hts _ hinst) (hts _ hini) hK hP.2 (cx_w_D hP.1) hS hA (cx_cl_at hcd) (fun j hj => hdf g j hj) (Nat.le_trans hmc hRc) (Nat.le_trans hms hRs) (of_decide_eq_true hdc) fun q H1 hP1 hD1 hS1 => ?_
    refine cx_size fun hz => ?_
    have hq := cx_newq hI hu hP1 hD1 hz
    subst hq
    have hP2 : va_P D cx_cl (cx_w g cA u.1 w ++ [(g.1 + u.1, cx_e g cA (.inr (a, cx_dfl a)))]) H1 := hP1
    rw [cx_w_push hu] at hP2
    have h9 := hk _ _ _ _ _ h p l e R s m args below meth c' F g D cA H1 locs ls C (show s.heap.size + (u.2.1 + 1) = g.1 + (u.1 + 1) by omega) ⟨hu, hP2⟩ hS1 hl
    have e9 : (Value.ref u.1 :: st).map (cx_v g) = .ref (g.1 + u.1) :: st.map (cx_v g) := by
      show Value.ref (cx_ad g u.1) :: st.map (cx_v g) = _
      unfold cx_ad
      rw [if_neg (by omega)]
    rw [e9] at h9
    exact h9
  | invokevirtual x =>
    obtain ⟨bs, r, rfl, hlen, hcs, hrc, hc2⟩ := cx_pop_e h
    rw [List.append_nil] at hrc hc2
    exact cx_call_ok hM (of_decide_eq_true hdc) (Or.inr (Or.inl ⟨rfl, hlen, hrc, of_decide_eq_true har⟩)) hcs (hcall _ _ _ _ _ hc2) (fun o w2 u2 h2 => hk _ _ _ _ _ h2) p l e R s m args below meth c' F g D cA H locs ls C hI hP hS hl
  | invokespecial x =>
    match c, h, har with
    | 0, h, har =>
      obtain ⟨q, r, rfl, hd, hcs, h⟩ := cx_r1_e h
      obtain ⟨h1, h2, h3⟩ := cx_ol_ok _ (of_decide_eq_true har)
      rw [hM.1] at h1
      refine W.objInit hx hb hown (hts _ h1) (hts _ h2) (hts _ h3) rfl (by rw [hml]; exact hl.1) rfl (of_decide_eq_true hdc) (Nat.le_trans hd hRd) ?_ ?_
      · show 2 * 0 + ((r.map (cx_v g)).map fun v => v.category).sum + 12 ≤ R.locals
        rw [cx_cs_eq]
        omega
      · exact go _ _ _ _ h _ _ _ hP hS hl
    | c + 1, h, har =>
      obtain ⟨bs, r, rfl, hlen, hcs, hrr, hc2⟩ := cx_pop_e h
      rw [List.append_nil] at hrr hc2
      exact cx_call_ok (c := 0) hM (of_decide_eq_true hdc) (Or.inr (Or.inr ⟨rfl, hlen, hrr, of_decide_eq_true har⟩)) hcs (hcall _ _ _ _ _ hc2) (fun o w2 u2 h2 => hk _ _ _ _ _ h2) p l e R s m args below meth c' F g D cA H locs ls C hI hP hS hl
  | invokestatic x =>
    match c, h, har with
    | 0, h, har =>
      obtain ⟨bs, r, rfl, hlen, hcs, hc2⟩ := cx_pop_e h
      rw [List.append_nil] at hc2
      exact cx_call_ok (c := 0) hM (of_decide_eq_true hdc) (Or.inl ⟨rfl, hlen, of_decide_eq_true har⟩) hcs (hcall _ _ _ _ _ hc2) (fun o w2 u2 h2 => hk _ _ _ _ _ h2) p l e R s m args below meth c' F g D cA H locs ls C hI hP hS hl
    | 2, h, har =>
      obtain ⟨y, z, r, rfl, hd, hcs, hc1, hc2, h⟩ := cx_i2_e h
      obtain ⟨h1, h2, h3, h4⟩ := cx_ma_ok _ (of_decide_eq_true har)
      rw [hM.1] at h1
      exact va_mmax hx hb (hml.trans hl.1.symm) hown (hts _ h1) (hts _ h2) (hts _ h3) (hts _ h4) (Nat.le_trans hd hRd) (by rw [cx_cs_eq]; omega) (Nat.le_trans hc1 hRc) (Nat.le_trans hc2 hRs) (of_decide_eq_true hdc) (go _ _ _ _ h _ _ _ hP hS hl)
    | 3, h, har =>
      obtain ⟨y, z, r, rfl, hd, hcs, hc1, hc2, h⟩ := cx_i2_e h
      obtain ⟨h1, h2, h3, h4⟩ := cx_mi_ok _ (of_decide_eq_true har)
      rw [hM.1] at h1
      exact va_mmin hx hb (hml.trans hl.1.symm) hown (hts _ h1) (hts _ h2) (hts _ h3) (hts _ h4) (Nat.le_trans hd hRd) (by rw [cx_cs_eq]; omega) (Nat.le_trans hc1 hRc) (Nat.le_trans hc2 hRs) (of_decide_eq_true hdc) (go _ _ _ _ h _ _ _ hP hS hl)
    | 4, h, har =>
      obtain ⟨q1, sp, q2, dp, n, r, rfl, hd, hcs, hq1, hq2, h⟩ := cx_cpy_e h
      obtain ⟨z1, hz1, h⟩ := cx_o_e h
      obtain ⟨z2, hz2, n1, n2, n3, n4, n5, h⟩ := cx_o_e h
      obtain ⟨h1, h2, h3, h4⟩ := cx_ac_ok _ (of_decide_eq_true har)
      rw [hM.1] at h1
      have he1 := cx_ia_e hz1
      have he2 := cx_ia_e hz2
      exact va_copyi (ty := .int) hx hb (hml.trans hl.1.symm) hown (hts _ h1) (hts _ h2) (hts _ h3) (hts _ h4) hK hP.2 (cx_w_D hP.1) hS q1 q2 0 0 (c0 := cA 0) (c1 := cA 0) (f := z1.2) (g := z2.2) (by rw [cx_w_at hq1, he1]; rfl) (by rw [cx_w_at hq2, he2]; rfl) rfl rfl rfl n1 n2 n3 n4 n5 (fun _ _ => rfl) (Nat.le_trans hd hRd) (by rw [cx_cs_eq, show nativeFrameWords "java/lang/System" "arraycopy" 5 = 7 by decide]; omega) (of_decide_eq_true hdc) (fun H1 locs1 hP1 _ hS1 => go _ _ _ _ h _ _ _ ⟨hP.1, by rw [← cx_w_set]; exact hP1⟩ hS1 hl)
    | 1, h, har => exact h.elim
    | c + 5, h, har => exact h.elim
  | _ => exact h.elim
theorem cx_vc_ok : ∀ {f : Nat} {X : cx_X} {M : cx_M} {d mc ms : Nat} {K : cx_K} {Q : cx_Q} {pc : Nat} {L : cx_L} {st : List Value} {w : cx_W} {u : cx_U}, cx_mo M → (∀ pc L st w u, K pc L st w u → cx_OK X M d mc ms Q pc L st w u) → cx_vc f X M d mc ms K Q pc L st w u → cx_OK X M d mc ms Q pc L st w u
  | 0, X, M, d, mc, ms, K, Q, pc, L, st, w, u, hM, hK, h => hK pc L st w u h
  | f + 1, X, M, d, mc, ms, K, Q, pc, L, st, w, u, hM, hK, h => by
    obtain ⟨r, hr, h⟩ := cx_o_e h
    refine cx_step_ok hM (hM.2 _ (cx_look_mem hr)) ?_ h ?_
    · intro a as w u k hc
      by_cases hI : cx_inl.elem a = true
      · rw [if_pos hI] at hc
        obtain ⟨d2, hd, ⟨h1, h2, h3, h4⟩, h5⟩ := cx_o_e hc
        cases d with
        | zero => cases hd
        | succ d3 =>
          have hd2 : d3 = d2 := Option.some.inj hd
          subst hd2
          refine ⟨d3, 0, 0, fun r w2 => k r w2 u, ⟨Nat.le_refl _, by omega, h3, h4⟩, ?_, fun r w2 q => q⟩
          exact cx_MC_of (cx_m_ok a) h1 (cx_vc_ok (cx_m_ok a).2.2 (fun _ _ _ _ _ q => q.elim) h5)
      · rw [if_neg hI] at hc
        exact hc
    · intro pc L st w u hc
      by_cases hs : (cx_h M).elem pc = true
      · rw [if_pos hs] at hc
        exact hK pc L st w u hc
      · rw [if_neg hs] at hc
        exact cx_vc_ok hM hK hc
/-- a reading from any point, cut at the heads of loops -/
theorem cx_run (f : Nat) {X : cx_X} {M : cx_M} {d mc ms : Nat} {Q : cx_Q} {pc : Nat} {L : cx_L} {st : List Value} {w : cx_W} {u : cx_U} (hM : cx_mo M) (h : cx_vc f X M d mc ms (cx_OK X M d mc ms Q) Q pc L st w u) : cx_OK X M d mc ms Q pc L st w u := cx_vc_ok hM (fun _ _ _ _ _ q => q) h
/-- a contract out of a reading from the entry -/
theorem cx_met (f : Nat) {M : cx_M} {d mc ms n : Nat} {as : List Value} {w : cx_W} {Q : Option Value → cx_W → Prop} (hM : cx_mok M) (ha : cx_a1 (cx_n M) as = true) (h : cx_vc f none M d mc ms (cx_OK none M d mc ms (fun r w _ => Q r w)) (fun r w _ => Q r w) 0 (cx_in (cx_n M) as) [] w (n, 0, 0)) : cx_MC M d mc ms as w n Q := cx_MC_of hM ha (cx_run f hM.2.2 h)
