/-! The law for every script. Own work. -/
theorem len_lt {l : List (Nat × Nat)} (h : ∀ p, p ∈ l → p.1 < 87) {k : Nat} (hk : ¬ k < 87) : (l.lookup k).getD 0 = 0 := by
  induction l with
  | nil => rfl
  | cons a r ih =>
    have h1 := h a (List.mem_cons_self ..)
    have e : (k == a.1) = false := beq_false_of_ne (by omega)
    obtain ⟨x, y⟩ := a
    rw [List.lookup_cons, e]
    exact ih fun p hp => h p (List.mem_cons_of_mem _ hp)
theorem okR_big {w : cx_W} {k : Nat} (hk : ¬ k < 87) : okR w k := okR_o (len_lt (by decide) hk) (len_lt (by decide) hk) (len_lt (by decide) hk)
set_option maxRecDepth 10000 in
theorem ok_new {w : cx_W} (hC : FC w) (hM : FM w) : ∀ k, okR w k := by
  obtain ⟨c0, c1, c2, c3, c4, c5, c6, c7, c8, c9, c10, c11, c12, c13, c14, c15, c16, c17, c18, c19, c20, c21, c22, c23, c24, c25, c26, c27, c28, c29, c30, c31, c32, c33, c34, c35, c36, c37, c38, c39, c40, c41, c42, c43, c44⟩ := hC
  obtain ⟨c45, c46, c47, c48, c49, c50, c51, c52, c53, c54, c55, c56, c57, c58, c59, c60, c61, c62, c63, c64, c65, c66, c67, c68, c69, c70, c71, c72, c73, c74, c75, c76, c77, c78, c79, c80, c81, c82, c83, c84, c85, c86⟩ := hM
  intro k
  by_cases hk : k < 87
  rotate_left
  · exact okR_big hk
  match k, hk with
  | 0, _ => exact okR_o rfl rfl rfl
  | 1, _ => exact okR_o rfl rfl rfl
  | 2, _ => exact okR_i c2 rfl rfl rfl
  | 3, _ => exact okR_i c3 rfl rfl rfl
  | 4, _ => exact okR_i c4 rfl rfl rfl
  | 5, _ => exact okR_i c5 rfl rfl rfl
  | 6, _ => exact okR_o rfl rfl rfl
  | 7, _ => exact okR_i c7 rfl rfl rfl
  | 8, _ => exact okR_i c8 rfl rfl rfl
  | 9, _ => exact okR_i c9 rfl rfl rfl
  | 10, _ => exact okR_i c10 rfl rfl rfl
  | 11, _ => exact okR_i c11 rfl rfl rfl
  | 12, _ => exact okR_i c12 rfl rfl rfl
  | 13, _ => exact okR_o rfl rfl rfl
  | 14, _ => exact okR_i c14 rfl rfl rfl
  | 15, _ => exact okR_i c15 rfl rfl rfl
  | 16, _ => exact okR_i c16 rfl rfl rfl
  | 17, _ => exact okR_i c17 rfl rfl rfl
  | 18, _ => exact okR_i c18 rfl rfl rfl
  | 19, _ => exact okR_i c19 rfl rfl rfl
  | 20, _ => exact okR_o rfl rfl rfl
  | 21, _ => exact okR_z c21 rfl rfl rfl
  | 22, _ => exact okR_i c22 rfl rfl rfl
  | 23, _ => exact okR_i c23 rfl rfl rfl
  | 24, _ => exact okR_i c24 rfl rfl rfl
  | 25, _ => exact okR_i c25 rfl rfl rfl
  | 26, _ => exact okR_i c26 rfl rfl rfl
  | 27, _ => exact okR_i c27 rfl rfl rfl
  | 28, _ => exact okR_z c28 rfl rfl rfl
  | 29, _ => exact okR_i c29 rfl rfl rfl
  | 30, _ => exact okR_o rfl rfl rfl
  | 31, _ => exact okR_i c31 rfl rfl rfl
  | 32, _ => exact okR_i c32 rfl rfl rfl
  | 33, _ => exact okR_i c33 rfl rfl rfl
  | 34, _ => exact okR_l c34 rfl rfl rfl
  | 35, _ => exact okR_i c35 rfl rfl rfl
  | 36, _ => exact okR_o rfl rfl rfl
  | 37, _ => exact okR_i c37 rfl rfl rfl
  | 38, _ => exact okR_i c38 rfl rfl rfl
  | 39, _ => exact okR_i c39 rfl rfl rfl
  | 40, _ => exact okR_o rfl rfl rfl
  | 41, _ => exact okR_l c41 rfl rfl rfl
  | 42, _ => exact okR_i c42 rfl rfl rfl
  | 43, _ => exact okR_z c43 rfl rfl rfl
  | 44, _ => exact okR_i c44 rfl rfl rfl
  | 45, _ => exact okR_o rfl rfl rfl
  | 46, _ => exact okR_i c46 rfl rfl rfl
  | 47, _ => exact okR_i c47 rfl rfl rfl
  | 48, _ => exact okR_i c48 rfl rfl rfl
  | 49, _ => exact okR_i c49 rfl rfl rfl
  | 50, _ => exact okR_i c50 rfl rfl rfl
  | 51, _ => exact okR_i c51 rfl rfl rfl
  | 52, _ => exact okR_i c52 rfl rfl rfl
  | 53, _ => exact okR_i c53 rfl rfl rfl
  | 54, _ => exact okR_i c54 rfl rfl rfl
  | 55, _ => exact okR_i c55 rfl rfl rfl
  | 56, _ => exact okR_i c56 rfl rfl rfl
  | 57, _ => exact okR_i c57 rfl rfl rfl
  | 58, _ => exact okR_i c58 rfl rfl rfl
  | 59, _ => exact okR_i c59 rfl rfl rfl
  | 60, _ => exact okR_i c60 rfl rfl rfl
  | 61, _ => exact okR_i c61 rfl rfl rfl
  | 62, _ => exact okR_i c62 rfl rfl rfl
  | 63, _ => exact okR_i c63 rfl rfl rfl
  | 64, _ => exact okR_z c64 rfl rfl rfl
  | 65, _ => exact okR_z c65 rfl rfl rfl
  | 66, _ => exact okR_i c66 rfl rfl rfl
  | 67, _ => exact okR_i c67 rfl rfl rfl
  | 68, _ => exact okR_i c68 rfl rfl rfl
  | 69, _ => exact okR_i c69 rfl rfl rfl
  | 70, _ => exact okR_z c70 rfl rfl rfl
  | 71, _ => exact okR_i c71 rfl rfl rfl
  | 72, _ => exact okR_i c72 rfl rfl rfl
  | 73, _ => exact okR_i c73 rfl rfl rfl
  | 74, _ => exact okR_i c74 rfl rfl rfl
  | 75, _ => exact okR_l c75 rfl rfl rfl
  | 76, _ => exact okR_i c76 rfl rfl rfl
  | 77, _ => exact okR_l c77 rfl rfl rfl
  | 78, _ => exact okR_l c78 rfl rfl rfl
  | 79, _ => exact okR_i c79 rfl rfl rfl
  | 80, _ => exact okR_i c80 rfl rfl rfl
  | 81, _ => exact okR_i c81 rfl rfl rfl
  | 82, _ => exact okR_i c82 rfl rfl rfl
  | 83, _ => exact okR_i c83 rfl rfl rfl
  | 84, _ => exact okR_z c84 rfl rfl rfl
  | 85, _ => exact okR_i c85 rfl rfl rfl
  | 86, _ => exact okR_i c86 rfl rfl rfl
  | k + 87, h => omega
theorem Inv_new {w : cx_W} (hC : FC w) (hM : FM w) : Inv MapI w := by
  have hok := ok_new hC hM
  obtain ⟨c0, c1, c2, c3, c4, c5, c6, c7, c8, c9, c10, c11, c12, c13, c14, c15, c16, c17, c18, c19, c20, c21, c22, c23, c24, c25, c26, c27, c28, c29, c30, c31, c32, c33, c34, c35, c36, c37, c38, c39, c40, c41, c42, c43, c44⟩ := hC
  obtain ⟨c45, c46, c47, c48, c49, c50, c51, c52, c53, c54, c55, c56, c57, c58, c59, c60, c61, c62, c63, c64, c65, c66, c67, c68, c69, c70, c71, c72, c73, c74, c75, c76, c77, c78, c79, c80, c81, c82, c83, c84, c85, c86⟩ := hM
  refine ⟨fun _ => 0, fun _ => 0, Nat.zero_le _, ⟨fun k => (hok k).1, fun k => (hok k).2.1, fun k => (hok k).2.2⟩, ⟨c0, c1, c6, c13, c20, c30, c36, c40, c45⟩, ⟨⟨by decide, by decide, by decide, by decide, by decide, by decide, by decide, by decide, rfl⟩, ⟨⟨rfl, fun j h => absurd h (Nat.not_lt_zero j)⟩, ⟨Nat.zero_le _, fun j h => absurd h (Nat.not_lt_zero j)⟩, fun j h => absurd h (Nat.not_lt_zero j)⟩, fun i h => absurd h (Nat.not_lt_zero i), fun i h => absurd h (Nat.not_lt_zero i), fun i h => absurd h (Nat.not_lt_zero i), fun i j h => absurd h (Nat.not_lt_zero i), fun i h => absurd h (Nat.not_lt_zero i), fun i h => absurd h (Nat.not_lt_zero i)⟩, fun z => absurd z (by decide)⟩
theorem calls_all {w : cx_W} (h : Inv MapI w) : Calls w (Inv MapI) :=
  ⟨P_input h, P_latch h, P_function h, P_drive h, P_output h, P_cell h, P_nodes h, P_nodeOf h, P_part h, P_map h, P_area h, P_cellAt h, P_period h, P_shortest h, P_moves h, P_latches h, P_clock (fun s s2 w w3 hm e1 e5 hk => hm.of e1 e5 hk) h, P_clockRetimed h, P_reset h⟩
/-- scripts of any length that the claim speaks of -/
theorem all_start {p : Program} {e : Env} {s : State} {m : MethodId} {below : List Frame} {meth : Method} {c : Code} (l : Launch) {b L : Nat} {xs : Nat → Int32} (hL : L ≤ 2560) (C0 : lw_At p s m meth c b L xs) : W p l e room_1 s m #[Value.ref b] below meth c s.heap [] 0 0 (lw_Z below #[Value.ref b] s) (entryFrame m ([Value.ref b] : List Value).toArray 4) := by
  refine law_entry l (ms := 11567) (by decide) C0 (law_new fun w2 hC hM => ?_)
  exact law_loop (L := L) hL (Nat.le_refl _) (fun _ w => Inv MapI w) (fun k w _ hI => calls_all hI) (fun k w hI => hI) L 0 w2 (by omega) (by omega) (Inv_new hC hM)
