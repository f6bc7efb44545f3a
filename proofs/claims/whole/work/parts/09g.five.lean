/-! A first call on new objects: both sides answer alike. Own work. -/
theorem FC_0 {w : cx_W} (h : FC w) : cx_ci (w 0) = some 0 := by
  unfold FC at h
  rw [h.1]
  rfl
theorem FM_45 {w : cx_W} (h : FM w) : cx_ci (w 45) = some 8 := by
  unfold FM at h
  rw [h.1]
  rfl
theorem calls_new {w : cx_W} (hC : FC w) (hM : FM w) : Calls w (fun _ => True) := by
  have e0 := FC_0 hC
  refine ⟨?_, ?_, ?_, ?_, ?_, ?_, ?_, ?_, ?_, ?_, ?_, ?_, ?_, ?_, ?_, ?_, ?_, ?_, ?_⟩
  · refine ⟨e0, _, p_C_input hC, fun r w2 h2 => ?_⟩
    obtain ⟨rfl, hk⟩ := h2
    have hM2 := FM_of hk hM
    exact ⟨FM_45 hM2, _, _, rfl, p_M_input hM2, fun r2 w3 h3 => ⟨h3.1, trivial⟩⟩
  · intro a
    refine ⟨e0, _, p_C_latch hC a, fun r w2 h2 => ?_⟩
    obtain ⟨rfl, hk⟩ := h2
    have hM2 := FM_of hk hM
    exact ⟨FM_45 hM2, _, _, rfl, p_M_latch hM2 a, fun r2 w3 h3 => ⟨h3.1, trivial⟩⟩
  · intro a b c t
    refine ⟨e0, _, p_C_function hC a b c t, fun r w2 h2 => ?_⟩
    obtain ⟨rfl, hk⟩ := h2
    have hM2 := FM_of hk hM
    exact ⟨FM_45 hM2, _, _, rfl, p_M_function hM2 a b c t, fun r2 w3 h3 => ⟨h3.1, trivial⟩⟩
  · intro a b
    refine ⟨e0, _, p_C_drive hC a b, fun r w2 h2 => ?_⟩
    obtain ⟨rfl, hk⟩ := h2
    have hM2 := FM_of hk hM
    exact ⟨FM_45 hM2, _, _, rfl, p_M_drive hM2 a b, fun r2 w3 h3 => ⟨h3.1, trivial⟩⟩
  · intro a
    refine ⟨e0, _, p_C_output hC a, fun r w2 h2 => ?_⟩
    obtain ⟨rfl, hk⟩ := h2
    have hM2 := FM_of hk hM
    exact ⟨FM_45 hM2, _, _, rfl, p_M_output hM2 a, fun r2 w3 h3 => ⟨h3.1, trivial⟩⟩
  · intro a b c
    refine ⟨e0, _, p_C_cell hC a b c, fun r w2 h2 => ?_⟩
    obtain ⟨rfl, hk⟩ := h2
    have hM2 := FM_of hk hM
    exact ⟨FM_45 hM2, _, _, rfl, p_M_cell hM2 a b c, fun r2 w3 h3 => ⟨h3.1, trivial⟩⟩
  · refine ⟨e0, _, p_C_nodes hC, fun r w2 h2 => ?_⟩
    obtain ⟨rfl, hk⟩ := h2
    have hM2 := FM_of hk hM
    exact ⟨FM_45 hM2, _, _, rfl, p_M_nodes hM2, fun r2 w3 h3 => ⟨h3.1, trivial⟩⟩
  · intro a
    refine ⟨e0, _, p_C_nodeOf hC a, fun r w2 h2 => ?_⟩
    obtain ⟨rfl, hk⟩ := h2
    have hM2 := FM_of hk hM
    exact ⟨FM_45 hM2, _, _, rfl, p_M_nodeOf hM2 a, fun r2 w3 h3 => ⟨h3.1, trivial⟩⟩
  · intro a b
    refine ⟨e0, _, p_C_part hC a b, fun r w2 h2 => ?_⟩
    obtain ⟨rfl, hk⟩ := h2
    have hM2 := FM_of hk hM
    exact ⟨FM_45 hM2, _, _, rfl, p_M_part hM2 a b, fun r2 w3 h3 => ⟨h3.1, trivial⟩⟩
  · refine ⟨e0, _, p_C_map hC, fun r w2 h2 => ?_⟩
    obtain ⟨rfl, hk⟩ := h2
    have hM2 := FM_of hk hM
    exact ⟨FM_45 hM2, _, _, rfl, p_M_map hM2, fun r2 w3 h3 => ⟨h3.1, trivial⟩⟩
  · refine ⟨e0, _, p_C_area hC, fun r w2 h2 => ?_⟩
    obtain ⟨rfl, hk⟩ := h2
    have hM2 := FM_of hk hM
    exact ⟨FM_45 hM2, _, _, rfl, p_M_area hM2, fun r2 w3 h3 => ⟨h3.1, trivial⟩⟩
  · intro a
    refine ⟨e0, _, p_C_cellAt hC a, fun r w2 h2 => ?_⟩
    obtain ⟨rfl, hk⟩ := h2
    have hM2 := FM_of hk hM
    exact ⟨FM_45 hM2, _, _, rfl, p_M_cellAt hM2 a, fun r2 w3 h3 => ⟨h3.1, trivial⟩⟩
  · refine ⟨e0, _, p_C_period hC, fun r w2 h2 => ?_⟩
    obtain ⟨rfl, hk⟩ := h2
    have hM2 := FM_of hk hM
    exact ⟨FM_45 hM2, _, _, rfl, p_M_period hM2, fun r2 w3 h3 => ⟨h3.1, trivial⟩⟩
  · refine ⟨e0, _, p_C_shortest hC, fun r w2 h2 => ?_⟩
    obtain ⟨rfl, hk⟩ := h2
    have hM2 := FM_of hk hM
    exact ⟨FM_45 hM2, _, _, rfl, p_M_shortest hM2, fun r2 w3 h3 => ⟨h3.1, trivial⟩⟩
  · intro a
    refine ⟨e0, _, p_C_moves hC a, fun r w2 h2 => ?_⟩
    obtain ⟨rfl, hk⟩ := h2
    have hM2 := FM_of hk hM
    exact ⟨FM_45 hM2, _, _, rfl, p_M_moves hM2 a, fun r2 w3 h3 => ⟨h3.1, trivial⟩⟩
  · intro a b
    refine ⟨e0, _, p_C_latches hC a b, fun r w2 h2 => ?_⟩
    obtain ⟨rfl, hk⟩ := h2
    have hM2 := FM_of hk hM
    exact ⟨FM_45 hM2, _, _, rfl, p_M_latches hM2 a b, fun r2 w3 h3 => ⟨h3.1, trivial⟩⟩
  · intro a
    refine ⟨e0, _, p_C_clock hC a, fun r w2 h2 => ?_⟩
    obtain ⟨rfl, hk⟩ := h2
    have hM2 := FM_of hk hM
    exact ⟨FM_45 hM2, _, _, rfl, p_M_clock hM2 a, fun r2 w3 h3 => ⟨h3.1, trivial⟩⟩
  · intro a
    refine ⟨e0, _, p_C_clockRetimed hC a, fun r w2 h2 => ?_⟩
    obtain ⟨rfl, hk⟩ := h2
    have hM2 := FM_of hk hM
    exact ⟨FM_45 hM2, _, _, rfl, p_M_clockRetimed hM2 a, fun r2 w3 h3 => ⟨h3.1, trivial⟩⟩
  · refine ⟨e0, _, p_C_reset hC, fun r w2 h2 => ?_⟩
    obtain ⟨rfl, hk⟩ := h2
    have hM2 := FM_of hk hM
    exact ⟨FM_45 hM2, _, rfl, p_M_reset hM2, fun r2 w3 h3 => ⟨h3.1, trivial⟩⟩
/-- scripts of at most five ints: one call at most -/
theorem five_start {p : Program} {e : Env} {s : State} {m : MethodId} {below : List Frame} {meth : Method} {c : Code} (l : Launch) {b L : Nat} {xs : Nat → Int32} (hL : L ≤ 5) (C0 : lw_At p s m meth c b L xs) : W p l e room_1 s m #[Value.ref b] below meth c s.heap [] 0 0 (lw_Z below #[Value.ref b] s) (entryFrame m ([Value.ref b] : List Value).toArray 4) := by
  refine law_entry l (ms := 11567) (by decide) C0 (law_new fun w2 hC hM => ?_)
  refine law_loop (L := L) (show L ≤ 2560 by omega) (Nat.le_refl _) (fun k w => k = 0 → FC w ∧ FM w) (fun k w hk hI => ?_) (fun k w hI hk => absurd hk (by omega)) L 0 w2 (by omega) (by omega) (fun _ => ⟨hC, hM⟩)
  have hk0 : k = 0 := by omega
  subst hk0
  obtain ⟨h1, h2⟩ := hI rfl
  have h3 := calls_new h1 h2
  have e : (fun w : cx_W => 0 + 1 = 0 → FC w ∧ FM w) = fun _ => True := by
    funext w2
    exact eq_true (fun q => absurd q (by decide))
  rw [e]
  exact h3
