/-! From the law's entry to its reading. Own work. -/
theorem cx_known {args : Array Value} {s : State} (hts : ∀ w ∈ cx_tb, w.before args s = true) : ∃ (D : va_G) (cA : Nat → ClassId), va_K D cx_cl (cx_tys cA) s := by
  have h1 : ∀ a : Nat, ∃ p : ClassId × (Nat → Nat), ∀ D0, cx_cd[a]? = some D0 → u_Kn s D0.1 D0.2.1 D0.2.2.1 p.1 p.2 := by
    intro a
    cases h : cx_cd[a]? with
    | none => exact ⟨(0, fun _ => 0), fun D0 q => by cases q⟩
    | some D1 =>
      obtain ⟨hws, -, -, hinst, -⟩ := cx_cd_ok a D1 h
      obtain ⟨c, i, hh⟩ := u_known hts hws (hts _ hinst)
      exact ⟨(c, i), fun D0 q => by cases q; exact hh⟩
  obtain ⟨c0, k0, m0, a1, a2, a3⟩ := Cond.arrayClass_spec (hts _ cx_arr_i)
  obtain ⟨c1, k1, m1, b1, b2, b3⟩ := Cond.arrayClass_spec (hts _ cx_arr_l)
  obtain ⟨c2, k2, m2, d1, d2, d3⟩ := Cond.arrayClass_spec (hts _ cx_arr_z)
  refine ⟨(fun a => (Classical.choose (h1 a)).1, fun a => (Classical.choose (h1 a)).2), fun t => match t with | 0 => c0 | 1 => c1 | _ => c2, fun a q hq => ?_, fun k q hq => ?_⟩
  · unfold cx_cl at hq
    rw [List.getElem?_map] at hq
    cases h : cx_cd[a]? with
    | none => rw [h] at hq; cases hq
    | some D0 =>
      rw [h] at hq
      cases hq
      exact Classical.choose_spec (h1 a) D0 h
  · match k, hq with
    | 0, hq => cases hq; exact ⟨fun n z => ⟨fun k h => (by cases h), k0, a2, m0, a3⟩, a1⟩
    | 1, hq => cases hq; exact ⟨fun n z => ⟨fun k h => (by cases h), k1, b2, m1, b3⟩, b1⟩
    | 2, hq => cases hq; exact ⟨fun n z => ⟨fun k h => (by cases h), k2, d2, m2, d3⟩, d1⟩
    | k + 3, hq => cases hq
set_option maxHeartbeats 4000000 in
set_option maxRecDepth 100000 in
theorem law_entry {p : Program} {e : Env} {s : State} {m : MethodId} {below : List Frame} {meth : Method} {c : Code} (l : Launch) {b L ms : Nat} {xs : Nat → Int32} (hms : ms ≤ 1000000) (C0 : lw_At p s m meth c b L xs) (h : cx_OK (some (L, xs)) mLaw_law 14 87 ms (fun r _ _ => r = some (.int 1)) 0 [some (.ref 1000000), none, none, none] [] (fun _ => .inr (0, [])) (0, 0, 0)) :
    W p l e room_1 s m #[Value.ref b] below meth c s.heap [] 0 0 (lw_Z below #[Value.ref b] s) (entryFrame m ([Value.ref b] : List Value).toArray 4) := by
  obtain ⟨hx, hb, hr, hml, hown, hts, hX, hbl, hlk, -⟩ := C0
  have hts2 : ∀ w ∈ cx_tb, w.before #[Value.ref b] s = true := fun w hw => hts w (List.mem_filter.mp hw).1
  obtain ⟨D, cA, hK⟩ := cx_known hts2
  have hl := lv_entry ([Value.ref b] : List Value) (n := 4) (Nat.le_of_ble_eq_true rfl)
  rw [lg_entry_eq]
  refine h p l e room_1 s m _ below meth c _ (s.heap.size, b) D cA s.heap [] _ ⟨⟨hx, hb, hr, hml, hown, hts2, fun q => absurd q (by decide)⟩, ⟨hK, Nat.le_refl _, fun q hq => ?_, by decide, by decide, by decide, Nat.le_trans hms (by decide)⟩, ?_⟩ rfl ⟨by decide, fun k q hq => by simp [cx_w] at hq⟩ va_S.rf (cx_has_sub hl fun q hq => ?_)
  · cases hq
    exact ⟨hX, hbl⟩
  · intro r w u H locs pc ls hq hrok hI hP hS hc hs hd
    subst hq
    refine va_forget (fun q hq => hS.2.2 q hq) ?_
    refine W.widen (k := 600000) (n := 7302250) (by omega) (by omega) ?_
    exact lw_ret hx hb hr hlk hd
  · obtain ⟨v, h1, h2⟩ := cx_al_mem.mp hq
    obtain ⟨q1, q2⟩ := q
    match q1, h1 with
    | 0, h1 =>
      cases h1
      have h3 : q2 = .ref b := h2
      rw [h3]
      exact List.mem_cons_self
    | 1, h1 => cases h1
    | 2, h1 => cases h1
    | 3, h1 => cases h1
