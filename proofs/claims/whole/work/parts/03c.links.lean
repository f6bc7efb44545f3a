/-! What each link means. Printed by gen.py. -/
theorem cd_w_C : ∀ w ∈ u_ws D_C.1 D_C.2.1 D_C.2.2.1, w ∈ cx_tb := cx_ins (js := [270, 272, 274, 276, 278, 280, 282, 284]) (by decide +kernel) (by decide +kernel)
theorem cd_t_C : ∀ k, k < D_C.2.2.1 → parseFieldDescriptor (D_C.2.1 k).2.2.1 = some (D_C.2.2.2 k) := by decide +kernel
theorem cd_n_C : ∀ a, a < D_C.2.2.1 → ∀ b, b < D_C.2.2.1 → a ≠ b → (D_C.2.1 a).2.1 ≠ (D_C.2.1 b).2.1 := by decide +kernel
theorem cd_d_C : ∀ (g : Nat × Nat) (j : Nat), j < D_C.2.2.1 → defaultValue (D_C.2.2.2 j) = vp_V ((cx_dfl 0).map (cx_v g)) j := fun g j hj => by
  have h : (cx_dfl 0).map (cx_v g) = cx_dfl 0 := rfl
  rw [h]
  exact (by decide +kernel : ∀ j, j < D_C.2.2.1 → defaultValue (D_C.2.2.2 j) = vp_V (cx_dfl 0) j) j hj
theorem cd_w_Gr : ∀ w ∈ u_ws D_Gr.1 D_Gr.2.1 D_Gr.2.2.1, w ∈ cx_tb := cx_ins (js := [32, 34, 36, 38, 40]) (by decide +kernel) (by decide +kernel)
theorem cd_t_Gr : ∀ k, k < D_Gr.2.2.1 → parseFieldDescriptor (D_Gr.2.1 k).2.2.1 = some (D_Gr.2.2.2 k) := by decide +kernel
theorem cd_n_Gr : ∀ a, a < D_Gr.2.2.1 → ∀ b, b < D_Gr.2.2.1 → a ≠ b → (D_Gr.2.1 a).2.1 ≠ (D_Gr.2.1 b).2.1 := by decide +kernel
theorem cd_d_Gr : ∀ (g : Nat × Nat) (j : Nat), j < D_Gr.2.2.1 → defaultValue (D_Gr.2.2.2 j) = vp_V ((cx_dfl 1).map (cx_v g)) j := fun g j hj => by
  have h : (cx_dfl 1).map (cx_v g) = cx_dfl 1 := rfl
  rw [h]
  exact (by decide +kernel : ∀ j, j < D_Gr.2.2.1 → defaultValue (D_Gr.2.2.2 j) = vp_V (cx_dfl 1) j) j hj
theorem cd_w_Ci : ∀ w ∈ u_ws D_Ci.1 D_Ci.2.1 D_Ci.2.2.1, w ∈ cx_tb := cx_ins (js := [63, 65, 67, 69, 71, 73, 75, 77, 79, 81, 83, 85, 87]) (by decide +kernel) (by decide +kernel)
theorem cd_t_Ci : ∀ k, k < D_Ci.2.2.1 → parseFieldDescriptor (D_Ci.2.1 k).2.2.1 = some (D_Ci.2.2.2 k) := by decide +kernel
theorem cd_n_Ci : ∀ a, a < D_Ci.2.2.1 → ∀ b, b < D_Ci.2.2.1 → a ≠ b → (D_Ci.2.1 a).2.1 ≠ (D_Ci.2.1 b).2.1 := by decide +kernel
theorem cd_d_Ci : ∀ (g : Nat × Nat) (j : Nat), j < D_Ci.2.2.1 → defaultValue (D_Ci.2.2.2 j) = vp_V ((cx_dfl 2).map (cx_v g)) j := fun g j hj => by
  have h : (cx_dfl 2).map (cx_v g) = cx_dfl 2 := rfl
  rw [h]
  exact (by decide +kernel : ∀ j, j < D_Ci.2.2.1 → defaultValue (D_Ci.2.2.2 j) = vp_V (cx_dfl 2) j) j hj
theorem cd_w_Li : ∀ w ∈ u_ws D_Li.1 D_Li.2.1 D_Li.2.2.1, w ∈ cx_tb := cx_ins (js := [103, 105, 107, 109, 111, 113, 115]) (by decide +kernel) (by decide +kernel)
theorem cd_t_Li : ∀ k, k < D_Li.2.2.1 → parseFieldDescriptor (D_Li.2.1 k).2.2.1 = some (D_Li.2.2.2 k) := by decide +kernel
theorem cd_n_Li : ∀ a, a < D_Li.2.2.1 → ∀ b, b < D_Li.2.2.1 → a ≠ b → (D_Li.2.1 a).2.1 ≠ (D_Li.2.1 b).2.1 := by decide +kernel
theorem cd_d_Li : ∀ (g : Nat × Nat) (j : Nat), j < D_Li.2.2.1 → defaultValue (D_Li.2.2.2 j) = vp_V ((cx_dfl 3).map (cx_v g)) j := fun g j hj => by
  have h : (cx_dfl 3).map (cx_v g) = cx_dfl 3 := rfl
  rw [h]
  exact (by decide +kernel : ∀ j, j < D_Li.2.2.1 → defaultValue (D_Li.2.2.2 j) = vp_V (cx_dfl 3) j) j hj
theorem cd_w_Co : ∀ w ∈ u_ws D_Co.1 D_Co.2.1 D_Co.2.2.1, w ∈ cx_tb := cx_ins (js := [137, 139, 141, 143, 145, 147, 149, 151, 153, 155, 157, 159, 161]) (by decide +kernel) (by decide +kernel)
theorem cd_t_Co : ∀ k, k < D_Co.2.2.1 → parseFieldDescriptor (D_Co.2.1 k).2.2.1 = some (D_Co.2.2.2 k) := by decide +kernel
theorem cd_n_Co : ∀ a, a < D_Co.2.2.1 → ∀ b, b < D_Co.2.2.1 → a ≠ b → (D_Co.2.1 a).2.1 ≠ (D_Co.2.1 b).2.1 := by decide +kernel
theorem cd_d_Co : ∀ (g : Nat × Nat) (j : Nat), j < D_Co.2.2.1 → defaultValue (D_Co.2.2.2 j) = vp_V ((cx_dfl 4).map (cx_v g)) j := fun g j hj => by
  have h : (cx_dfl 4).map (cx_v g) = cx_dfl 4 := rfl
  rw [h]
  exact (by decide +kernel : ∀ j, j < D_Co.2.2.1 → defaultValue (D_Co.2.2.2 j) = vp_V (cx_dfl 4) j) j hj
theorem cd_w_Cn : ∀ w ∈ u_ws D_Cn.1 D_Cn.2.1 D_Cn.2.2.1, w ∈ cx_tb := cx_ins (js := [181, 183, 185, 187, 189, 191, 193, 195, 197, 199]) (by decide +kernel) (by decide +kernel)
theorem cd_t_Cn : ∀ k, k < D_Cn.2.2.1 → parseFieldDescriptor (D_Cn.2.1 k).2.2.1 = some (D_Cn.2.2.2 k) := by decide +kernel
theorem cd_n_Cn : ∀ a, a < D_Cn.2.2.1 → ∀ b, b < D_Cn.2.2.1 → a ≠ b → (D_Cn.2.1 a).2.1 ≠ (D_Cn.2.1 b).2.1 := by decide +kernel
theorem cd_d_Cn : ∀ (g : Nat × Nat) (j : Nat), j < D_Cn.2.2.1 → defaultValue (D_Cn.2.2.2 j) = vp_V ((cx_dfl 5).map (cx_v g)) j := fun g j hj => by
  have h : (cx_dfl 5).map (cx_v g) = cx_dfl 5 := rfl
  rw [h]
  exact (by decide +kernel : ∀ j, j < D_Cn.2.2.1 → defaultValue (D_Cn.2.2.2 j) = vp_V (cx_dfl 5) j) j hj
theorem cd_w_Re : ∀ w ∈ u_ws D_Re.1 D_Re.2.1 D_Re.2.2.1, w ∈ cx_tb := cx_ins (js := [216, 218, 220, 222, 224, 226, 228]) (by decide +kernel) (by decide +kernel)
theorem cd_t_Re : ∀ k, k < D_Re.2.2.1 → parseFieldDescriptor (D_Re.2.1 k).2.2.1 = some (D_Re.2.2.2 k) := by decide +kernel
theorem cd_n_Re : ∀ a, a < D_Re.2.2.1 → ∀ b, b < D_Re.2.2.1 → a ≠ b → (D_Re.2.1 a).2.1 ≠ (D_Re.2.1 b).2.1 := by decide +kernel
theorem cd_d_Re : ∀ (g : Nat × Nat) (j : Nat), j < D_Re.2.2.1 → defaultValue (D_Re.2.2.2 j) = vp_V ((cx_dfl 6).map (cx_v g)) j := fun g j hj => by
  have h : (cx_dfl 6).map (cx_v g) = cx_dfl 6 := rfl
  rw [h]
  exact (by decide +kernel : ∀ j, j < D_Re.2.2.1 → defaultValue (D_Re.2.2.2 j) = vp_V (cx_dfl 6) j) j hj
theorem cd_w_Ma : ∀ w ∈ u_ws D_Ma.1 D_Ma.2.1 D_Ma.2.2.1, w ∈ cx_tb := cx_ins (js := [245, 247, 249, 251, 253, 255, 257, 259]) (by decide +kernel) (by decide +kernel)
theorem cd_t_Ma : ∀ k, k < D_Ma.2.2.1 → parseFieldDescriptor (D_Ma.2.1 k).2.2.1 = some (D_Ma.2.2.2 k) := by decide +kernel
theorem cd_n_Ma : ∀ a, a < D_Ma.2.2.1 → ∀ b, b < D_Ma.2.2.1 → a ≠ b → (D_Ma.2.1 a).2.1 ≠ (D_Ma.2.1 b).2.1 := by decide +kernel
theorem cd_d_Ma : ∀ (g : Nat × Nat) (j : Nat), j < D_Ma.2.2.1 → defaultValue (D_Ma.2.2.2 j) = vp_V ((cx_dfl 7).map (cx_v g)) j := fun g j hj => by
  have h : (cx_dfl 7).map (cx_v g) = cx_dfl 7 := rfl
  rw [h]
  exact (by decide +kernel : ∀ j, j < D_Ma.2.2.1 → defaultValue (D_Ma.2.2.2 j) = vp_V (cx_dfl 7) j) j hj
theorem cd_w_M : ∀ w ∈ u_ws D_M.1 D_M.2.1 D_M.2.2.1, w ∈ cx_tb := cx_ins (js := [924, 926, 928, 930, 932, 934, 936, 938, 940, 942, 944, 946, 948, 950, 952, 954, 956, 958, 960, 962, 964, 966, 968, 970, 972, 974, 976, 978, 980, 982, 984, 986, 988, 990, 992, 994, 996, 998, 1000, 1002, 1004, 1006, 1008, 1010, 1012, 1014, 1016, 1018, 1020, 1022, 1024]) (by decide +kernel) (by decide +kernel)
theorem cd_t_M : ∀ k, k < D_M.2.2.1 → parseFieldDescriptor (D_M.2.1 k).2.2.1 = some (D_M.2.2.2 k) := by decide +kernel
theorem cd_n_M : ∀ a, a < D_M.2.2.1 → ∀ b, b < D_M.2.2.1 → a ≠ b → (D_M.2.1 a).2.1 ≠ (D_M.2.1 b).2.1 := by decide +kernel
theorem cd_d_M : ∀ (g : Nat × Nat) (j : Nat), j < D_M.2.2.1 → defaultValue (D_M.2.2.2 j) = vp_V ((cx_dfl 8).map (cx_v g)) j := fun g j hj => by
  have h : (cx_dfl 8).map (cx_v g) = cx_dfl 8 := rfl
  rw [h]
  exact (by decide +kernel : ∀ j, j < D_M.2.2.1 → defaultValue (D_M.2.2.2 j) = vp_V (cx_dfl 8) j) j hj
theorem cx_cd_ok : ∀ (a : Nat) (D0 : cx_D), cx_cd[a]? = some D0 → (∀ w ∈ u_ws D0.1 D0.2.1 D0.2.2.1, w ∈ cx_tb) ∧ (∀ k, k < D0.2.2.1 → parseFieldDescriptor (D0.2.1 k).2.2.1 = some (D0.2.2.2 k)) ∧ (∀ a, a < D0.2.2.1 → ∀ b, b < D0.2.2.1 → a ≠ b → (D0.2.1 a).2.1 ≠ (D0.2.1 b).2.1) ∧ Cond.instantiable D0.1 D0.2.2.1 ∈ cx_tb ∧ Cond.initialized D0.1 ∈ cx_tb ∧ (cx_dfl a).length = D0.2.2.1 ∧ ∀ (g : Nat × Nat) (j : Nat), j < D0.2.2.1 → defaultValue (D0.2.2.2 j) = vp_V ((cx_dfl a).map (cx_v g)) j
  | 0, D0, h => by
    cases h
    exact ⟨cd_w_C, cd_t_C, cd_n_C, cw_0, cw_1, rfl, cd_d_C⟩
  | 1, D0, h => by
    cases h
    exact ⟨cd_w_Gr, cd_t_Gr, cd_n_Gr, cw_2, cw_3, rfl, cd_d_Gr⟩
  | 2, D0, h => by
    cases h
    exact ⟨cd_w_Ci, cd_t_Ci, cd_n_Ci, cw_4, cw_5, rfl, cd_d_Ci⟩
  | 3, D0, h => by
    cases h
    exact ⟨cd_w_Li, cd_t_Li, cd_n_Li, cw_6, cw_7, rfl, cd_d_Li⟩
  | 4, D0, h => by
    cases h
    exact ⟨cd_w_Co, cd_t_Co, cd_n_Co, cw_8, cw_9, rfl, cd_d_Co⟩
  | 5, D0, h => by
    cases h
    exact ⟨cd_w_Cn, cd_t_Cn, cd_n_Cn, cw_10, cw_11, rfl, cd_d_Cn⟩
  | 6, D0, h => by
    cases h
    exact ⟨cd_w_Re, cd_t_Re, cd_n_Re, cw_12, cw_13, rfl, cd_d_Re⟩
  | 7, D0, h => by
    cases h
    exact ⟨cd_w_Ma, cd_t_Ma, cd_n_Ma, cw_14, cw_15, rfl, cd_d_Ma⟩
  | 8, D0, h => by
    cases h
    exact ⟨cd_w_M, cd_t_M, cd_n_M, cw_16, cw_17, rfl, cd_d_M⟩
  | a + 9, D0, h => by cases h
theorem cx_arr_i : Cond.arrayClass .int ∈ cx_tb := cx_in1 (i := 43) (by decide +kernel) rfl
theorem cx_arr_l : Cond.arrayClass .long ∈ cx_tb := cx_in1 (i := 202) (by decide +kernel) rfl
theorem cx_arr_z : Cond.arrayClass .boolean ∈ cx_tb := cx_in1 (i := 164) (by decide +kernel) rfl
theorem cx_kl_ok_0 : Cond.constant (cx_cn 4) 133 (48001) ∈ cx_tb := cw_18
theorem cx_kl_ok_1 : Cond.constant (cx_cn 8) 216 (1000000) ∈ cx_tb := cw_19
set_option maxRecDepth 100000 in
theorem cx_kl_ok : ∀ q ∈ cx_kl, Cond.constant (cx_cn q.1) q.2.1 q.2.2 ∈ cx_tb := List.forall_mem_cons.mpr ⟨cx_kl_ok_0, List.forall_mem_cons.mpr ⟨cx_kl_ok_1, fun _ h => absurd h List.not_mem_nil⟩⟩
theorem cx_ql_ok_0 : Cond.constantLong (cx_cn 0) 170 (Int32.toInt64 (-6)) ∈ cx_tb := cw_20
theorem cx_ql_ok_1 : Cond.constantLong (cx_cn 0) 175 (Int32.toInt64 (-1)) ∈ cx_tb := cw_21
theorem cx_ql_ok_2 : Cond.constantLong (cx_cn 5) 47 (Int32.toInt64 (64)) ∈ cx_tb := cw_22
theorem cx_ql_ok_3 : Cond.constantLong (cx_cn 8) 294 (Int32.toInt64 (-6)) ∈ cx_tb := cw_23
theorem cx_ql_ok_4 : Cond.constantLong (cx_cn 8) 296 (Int32.toInt64 (-1)) ∈ cx_tb := cw_24
theorem cx_ql_ok_5 : Cond.constantLong (cx_cn 8) 298 (Int32.toInt64 (64)) ∈ cx_tb := cw_25
set_option maxRecDepth 100000 in
theorem cx_ql_ok : ∀ q ∈ cx_ql, Cond.constantLong (cx_cn q.1) q.2.1 q.2.2.toInt64 ∈ cx_tb := List.forall_mem_cons.mpr ⟨cx_ql_ok_0, List.forall_mem_cons.mpr ⟨cx_ql_ok_1, List.forall_mem_cons.mpr ⟨cx_ql_ok_2, List.forall_mem_cons.mpr ⟨cx_ql_ok_3, List.forall_mem_cons.mpr ⟨cx_ql_ok_4, List.forall_mem_cons.mpr ⟨cx_ql_ok_5, fun _ h => absurd h List.not_mem_nil⟩⟩⟩⟩⟩⟩
def cx_FOK (q : Nat × Nat × Nat × Nat × Nat) : Prop := ∃ D0 : cx_D, cx_cd[q.2.2.1]? = some D0 ∧ q.2.2.2.1 < D0.2.2.1 ∧ Cond.fieldLink (cx_cn q.1) q.2.1 (D0.2.1 q.2.2.2.1).1 (D0.2.1 q.2.2.2.1).2.1 (D0.2.1 q.2.2.2.1).2.2.1 ∈ cx_tb ∧ cx_fty q.2.2.2.2 (D0.2.2.2 q.2.2.2.1) ∧ (q.2.2.2.2 < 4 → (D0.2.1 q.2.2.2.1).2.2.2 = false) ∧ (4 ≤ q.2.2.2.2 → (D0.2.1 q.2.2.2.1).2.2.2 = true ∧ (D0.2.1 q.2.2.2.1).1 = cx_cn q.1)
theorem cx_fl_ok_0 : cx_FOK (0, 10, 0, 0, 6) := ⟨D_C, rfl, by decide, cw_26, Or.inl ⟨_, rfl⟩, by decide, by decide⟩
theorem cx_fl_ok_1 : cx_FOK (0, 21, 0, 1, 6) := ⟨D_C, rfl, by decide, cw_27, Or.inl ⟨_, rfl⟩, by decide, by decide⟩
theorem cx_fl_ok_2 : cx_FOK (0, 28, 0, 2, 6) := ⟨D_C, rfl, by decide, cw_28, Or.inl ⟨_, rfl⟩, by decide, by decide⟩
theorem cx_fl_ok_3 : cx_FOK (0, 37, 0, 3, 6) := ⟨D_C, rfl, by decide, cw_29, Or.inl ⟨_, rfl⟩, by decide, by decide⟩
theorem cx_fl_ok_4 : cx_FOK (0, 46, 0, 4, 6) := ⟨D_C, rfl, by decide, cw_30, Or.inl ⟨_, rfl⟩, by decide, by decide⟩
theorem cx_fl_ok_5 : cx_FOK (0, 55, 0, 5, 6) := ⟨D_C, rfl, by decide, cw_31, Or.inl ⟨_, rfl⟩, by decide, by decide⟩
theorem cx_fl_ok_6 : cx_FOK (0, 64, 0, 6, 6) := ⟨D_C, rfl, by decide, cw_32, Or.inl ⟨_, rfl⟩, by decide, by decide⟩
theorem cx_fl_ok_7 : cx_FOK (0, 68, 0, 7, 1) := ⟨D_C, rfl, by decide, cw_33, rfl, by decide, by decide⟩
theorem cx_fl_ok_8 : cx_FOK (1, 9, 1, 0, 6) := ⟨D_Gr, rfl, by decide, cw_34, Or.inr ⟨_, rfl⟩, by decide, by decide⟩
theorem cx_fl_ok_9 : cx_FOK (1, 15, 1, 1, 6) := ⟨D_Gr, rfl, by decide, cw_35, Or.inr ⟨_, rfl⟩, by decide, by decide⟩
theorem cx_fl_ok_10 : cx_FOK (1, 18, 1, 2, 6) := ⟨D_Gr, rfl, by decide, cw_36, Or.inr ⟨_, rfl⟩, by decide, by decide⟩
theorem cx_fl_ok_11 : cx_FOK (1, 21, 1, 3, 6) := ⟨D_Gr, rfl, by decide, cw_37, Or.inr ⟨_, rfl⟩, by decide, by decide⟩
theorem cx_fl_ok_12 : cx_FOK (1, 24, 1, 4, 0) := ⟨D_Gr, rfl, by decide, cw_38, rfl, by decide, by decide⟩
theorem cx_fl_ok_13 : cx_FOK (2, 9, 2, 0, 6) := ⟨D_Ci, rfl, by decide, cw_39, Or.inl ⟨_, rfl⟩, by decide, by decide⟩
theorem cx_fl_ok_14 : cx_FOK (2, 15, 2, 1, 6) := ⟨D_Ci, rfl, by decide, cw_40, Or.inr ⟨_, rfl⟩, by decide, by decide⟩
theorem cx_fl_ok_15 : cx_FOK (2, 19, 2, 2, 6) := ⟨D_Ci, rfl, by decide, cw_41, Or.inr ⟨_, rfl⟩, by decide, by decide⟩
theorem cx_fl_ok_16 : cx_FOK (2, 22, 2, 3, 6) := ⟨D_Ci, rfl, by decide, cw_42, Or.inr ⟨_, rfl⟩, by decide, by decide⟩
theorem cx_fl_ok_17 : cx_FOK (2, 25, 2, 4, 6) := ⟨D_Ci, rfl, by decide, cw_43, Or.inr ⟨_, rfl⟩, by decide, by decide⟩
theorem cx_fl_ok_18 : cx_FOK (2, 28, 2, 5, 6) := ⟨D_Ci, rfl, by decide, cw_44, Or.inr ⟨_, rfl⟩, by decide, by decide⟩
theorem cx_fl_ok_19 : cx_FOK (2, 31, 2, 6, 6) := ⟨D_Ci, rfl, by decide, cw_45, Or.inr ⟨_, rfl⟩, by decide, by decide⟩
theorem cx_fl_ok_20 : cx_FOK (2, 34, 2, 7, 0) := ⟨D_Ci, rfl, by decide, cw_46, rfl, by decide, by decide⟩
theorem cx_fl_ok_21 : cx_FOK (2, 38, 2, 10, 0) := ⟨D_Ci, rfl, by decide, cw_47, rfl, by decide, by decide⟩
theorem cx_fl_ok_22 : cx_FOK (2, 41, 2, 9, 0) := ⟨D_Ci, rfl, by decide, cw_48, rfl, by decide, by decide⟩
theorem cx_fl_ok_23 : cx_FOK (2, 44, 2, 11, 0) := ⟨D_Ci, rfl, by decide, cw_49, rfl, by decide, by decide⟩
theorem cx_fl_ok_24 : cx_FOK (2, 47, 2, 8, 0) := ⟨D_Ci, rfl, by decide, cw_50, rfl, by decide, by decide⟩
theorem cx_fl_ok_25 : cx_FOK (2, 91, 2, 12, 0) := ⟨D_Ci, rfl, by decide, cw_51, rfl, by decide, by decide⟩
theorem cx_fl_ok_26 : cx_FOK (3, 9, 3, 0, 6) := ⟨D_Li, rfl, by decide, cw_52, Or.inr ⟨_, rfl⟩, by decide, by decide⟩
theorem cx_fl_ok_27 : cx_FOK (3, 15, 3, 1, 6) := ⟨D_Li, rfl, by decide, cw_53, Or.inr ⟨_, rfl⟩, by decide, by decide⟩
theorem cx_fl_ok_28 : cx_FOK (3, 18, 3, 2, 6) := ⟨D_Li, rfl, by decide, cw_54, Or.inr ⟨_, rfl⟩, by decide, by decide⟩
theorem cx_fl_ok_29 : cx_FOK (3, 21, 3, 3, 6) := ⟨D_Li, rfl, by decide, cw_55, Or.inr ⟨_, rfl⟩, by decide, by decide⟩
theorem cx_fl_ok_30 : cx_FOK (3, 24, 3, 4, 6) := ⟨D_Li, rfl, by decide, cw_56, Or.inr ⟨_, rfl⟩, by decide, by decide⟩
theorem cx_fl_ok_31 : cx_FOK (3, 27, 3, 5, 6) := ⟨D_Li, rfl, by decide, cw_57, Or.inr ⟨_, rfl⟩, by decide, by decide⟩
theorem cx_fl_ok_32 : cx_FOK (3, 30, 3, 6, 0) := ⟨D_Li, rfl, by decide, cw_58, rfl, by decide, by decide⟩
theorem cx_fl_ok_33 : cx_FOK (4, 9, 4, 0, 6) := ⟨D_Co, rfl, by decide, cw_59, Or.inl ⟨_, rfl⟩, by decide, by decide⟩
theorem cx_fl_ok_34 : cx_FOK (4, 15, 4, 1, 6) := ⟨D_Co, rfl, by decide, cw_60, Or.inl ⟨_, rfl⟩, by decide, by decide⟩
theorem cx_fl_ok_35 : cx_FOK (4, 19, 4, 2, 6) := ⟨D_Co, rfl, by decide, cw_61, Or.inl ⟨_, rfl⟩, by decide, by decide⟩
theorem cx_fl_ok_36 : cx_FOK (4, 23, 4, 3, 6) := ⟨D_Co, rfl, by decide, cw_62, Or.inr ⟨_, rfl⟩, by decide, by decide⟩
theorem cx_fl_ok_37 : cx_FOK (4, 27, 4, 4, 6) := ⟨D_Co, rfl, by decide, cw_63, Or.inr ⟨_, rfl⟩, by decide, by decide⟩
theorem cx_fl_ok_38 : cx_FOK (4, 31, 4, 5, 6) := ⟨D_Co, rfl, by decide, cw_64, Or.inr ⟨_, rfl⟩, by decide, by decide⟩
theorem cx_fl_ok_39 : cx_FOK (4, 34, 4, 6, 6) := ⟨D_Co, rfl, by decide, cw_65, Or.inr ⟨_, rfl⟩, by decide, by decide⟩
theorem cx_fl_ok_40 : cx_FOK (4, 37, 4, 7, 6) := ⟨D_Co, rfl, by decide, cw_66, Or.inr ⟨_, rfl⟩, by decide, by decide⟩
theorem cx_fl_ok_41 : cx_FOK (4, 40, 4, 8, 6) := ⟨D_Co, rfl, by decide, cw_67, Or.inr ⟨_, rfl⟩, by decide, by decide⟩
theorem cx_fl_ok_42 : cx_FOK (4, 43, 4, 9, 6) := ⟨D_Co, rfl, by decide, cw_68, Or.inr ⟨_, rfl⟩, by decide, by decide⟩
theorem cx_fl_ok_43 : cx_FOK (4, 46, 4, 10, 6) := ⟨D_Co, rfl, by decide, cw_69, Or.inr ⟨_, rfl⟩, by decide, by decide⟩
theorem cx_fl_ok_44 : cx_FOK (4, 49, 4, 11, 6) := ⟨D_Co, rfl, by decide, cw_70, Or.inr ⟨_, rfl⟩, by decide, by decide⟩
theorem cx_fl_ok_45 : cx_FOK (4, 52, 4, 12, 0) := ⟨D_Co, rfl, by decide, cw_71, rfl, by decide, by decide⟩
theorem cx_fl_ok_46 : cx_FOK (5, 9, 5, 0, 6) := ⟨D_Cn, rfl, by decide, cw_72, Or.inl ⟨_, rfl⟩, by decide, by decide⟩
theorem cx_fl_ok_47 : cx_FOK (5, 15, 5, 1, 6) := ⟨D_Cn, rfl, by decide, cw_73, Or.inl ⟨_, rfl⟩, by decide, by decide⟩
theorem cx_fl_ok_48 : cx_FOK (5, 19, 5, 2, 6) := ⟨D_Cn, rfl, by decide, cw_74, Or.inl ⟨_, rfl⟩, by decide, by decide⟩
theorem cx_fl_ok_49 : cx_FOK (5, 23, 5, 3, 6) := ⟨D_Cn, rfl, by decide, cw_75, Or.inr ⟨_, rfl⟩, by decide, by decide⟩
theorem cx_fl_ok_50 : cx_FOK (5, 27, 5, 4, 6) := ⟨D_Cn, rfl, by decide, cw_76, Or.inr ⟨_, rfl⟩, by decide, by decide⟩
theorem cx_fl_ok_51 : cx_FOK (5, 30, 5, 5, 6) := ⟨D_Cn, rfl, by decide, cw_77, Or.inr ⟨_, rfl⟩, by decide, by decide⟩
theorem cx_fl_ok_52 : cx_FOK (5, 33, 5, 6, 6) := ⟨D_Cn, rfl, by decide, cw_78, Or.inr ⟨_, rfl⟩, by decide, by decide⟩
theorem cx_fl_ok_53 : cx_FOK (5, 37, 5, 7, 6) := ⟨D_Cn, rfl, by decide, cw_79, Or.inr ⟨_, rfl⟩, by decide, by decide⟩
theorem cx_fl_ok_54 : cx_FOK (5, 40, 5, 9, 0) := ⟨D_Cn, rfl, by decide, cw_80, rfl, by decide, by decide⟩
theorem cx_fl_ok_55 : cx_FOK (5, 44, 5, 8, 0) := ⟨D_Cn, rfl, by decide, cw_81, rfl, by decide, by decide⟩
theorem cx_fl_ok_56 : cx_FOK (6, 9, 6, 0, 6) := ⟨D_Re, rfl, by decide, cw_82, Or.inl ⟨_, rfl⟩, by decide, by decide⟩
theorem cx_fl_ok_57 : cx_FOK (6, 15, 6, 1, 6) := ⟨D_Re, rfl, by decide, cw_83, Or.inl ⟨_, rfl⟩, by decide, by decide⟩
theorem cx_fl_ok_58 : cx_FOK (6, 19, 6, 2, 6) := ⟨D_Re, rfl, by decide, cw_84, Or.inr ⟨_, rfl⟩, by decide, by decide⟩
theorem cx_fl_ok_59 : cx_FOK (6, 23, 6, 3, 6) := ⟨D_Re, rfl, by decide, cw_85, Or.inr ⟨_, rfl⟩, by decide, by decide⟩
theorem cx_fl_ok_60 : cx_FOK (6, 26, 6, 4, 6) := ⟨D_Re, rfl, by decide, cw_86, Or.inr ⟨_, rfl⟩, by decide, by decide⟩
theorem cx_fl_ok_61 : cx_FOK (6, 29, 6, 5, 0) := ⟨D_Re, rfl, by decide, cw_87, rfl, by decide, by decide⟩
theorem cx_fl_ok_62 : cx_FOK (6, 33, 6, 6, 0) := ⟨D_Re, rfl, by decide, cw_88, rfl, by decide, by decide⟩
theorem cx_fl_ok_63 : cx_FOK (7, 9, 7, 0, 6) := ⟨D_Ma, rfl, by decide, cw_89, Or.inl ⟨_, rfl⟩, by decide, by decide⟩
theorem cx_fl_ok_64 : cx_FOK (7, 15, 7, 1, 6) := ⟨D_Ma, rfl, by decide, cw_90, Or.inl ⟨_, rfl⟩, by decide, by decide⟩
theorem cx_fl_ok_65 : cx_FOK (7, 19, 7, 2, 6) := ⟨D_Ma, rfl, by decide, cw_91, Or.inl ⟨_, rfl⟩, by decide, by decide⟩
theorem cx_fl_ok_66 : cx_FOK (7, 23, 7, 3, 6) := ⟨D_Ma, rfl, by decide, cw_92, Or.inl ⟨_, rfl⟩, by decide, by decide⟩
theorem cx_fl_ok_67 : cx_FOK (7, 29, 7, 4, 6) := ⟨D_Ma, rfl, by decide, cw_93, Or.inr ⟨_, rfl⟩, by decide, by decide⟩
theorem cx_fl_ok_68 : cx_FOK (7, 33, 7, 5, 6) := ⟨D_Ma, rfl, by decide, cw_94, Or.inr ⟨_, rfl⟩, by decide, by decide⟩
theorem cx_fl_ok_69 : cx_FOK (7, 37, 7, 6, 6) := ⟨D_Ma, rfl, by decide, cw_95, Or.inr ⟨_, rfl⟩, by decide, by decide⟩
theorem cx_fl_ok_70 : cx_FOK (7, 41, 7, 7, 6) := ⟨D_Ma, rfl, by decide, cw_96, Or.inr ⟨_, rfl⟩, by decide, by decide⟩
theorem cx_fl_ok_71 : cx_FOK (8, 7, 8, 1, 6) := ⟨D_M, rfl, by decide, cw_97, Or.inr ⟨_, rfl⟩, by decide, by decide⟩
theorem cx_fl_ok_72 : cx_FOK (8, 13, 8, 2, 6) := ⟨D_M, rfl, by decide, cw_98, Or.inr ⟨_, rfl⟩, by decide, by decide⟩
theorem cx_fl_ok_73 : cx_FOK (8, 16, 8, 3, 6) := ⟨D_M, rfl, by decide, cw_99, Or.inr ⟨_, rfl⟩, by decide, by decide⟩
theorem cx_fl_ok_74 : cx_FOK (8, 19, 8, 4, 6) := ⟨D_M, rfl, by decide, cw_100, Or.inr ⟨_, rfl⟩, by decide, by decide⟩
theorem cx_fl_ok_75 : cx_FOK (8, 22, 8, 5, 6) := ⟨D_M, rfl, by decide, cw_101, Or.inr ⟨_, rfl⟩, by decide, by decide⟩
theorem cx_fl_ok_76 : cx_FOK (8, 25, 8, 6, 6) := ⟨D_M, rfl, by decide, cw_102, Or.inr ⟨_, rfl⟩, by decide, by decide⟩
theorem cx_fl_ok_77 : cx_FOK (8, 28, 8, 7, 6) := ⟨D_M, rfl, by decide, cw_103, Or.inr ⟨_, rfl⟩, by decide, by decide⟩
theorem cx_fl_ok_78 : cx_FOK (8, 31, 8, 8, 6) := ⟨D_M, rfl, by decide, cw_104, Or.inr ⟨_, rfl⟩, by decide, by decide⟩
theorem cx_fl_ok_79 : cx_FOK (8, 34, 8, 9, 6) := ⟨D_M, rfl, by decide, cw_105, Or.inr ⟨_, rfl⟩, by decide, by decide⟩
theorem cx_fl_ok_80 : cx_FOK (8, 37, 8, 10, 6) := ⟨D_M, rfl, by decide, cw_106, Or.inr ⟨_, rfl⟩, by decide, by decide⟩
theorem cx_fl_ok_81 : cx_FOK (8, 40, 8, 14, 6) := ⟨D_M, rfl, by decide, cw_107, Or.inr ⟨_, rfl⟩, by decide, by decide⟩
theorem cx_fl_ok_82 : cx_FOK (8, 43, 8, 15, 6) := ⟨D_M, rfl, by decide, cw_108, Or.inr ⟨_, rfl⟩, by decide, by decide⟩
theorem cx_fl_ok_83 : cx_FOK (8, 46, 8, 16, 6) := ⟨D_M, rfl, by decide, cw_109, Or.inr ⟨_, rfl⟩, by decide, by decide⟩
theorem cx_fl_ok_84 : cx_FOK (8, 49, 8, 17, 6) := ⟨D_M, rfl, by decide, cw_110, Or.inr ⟨_, rfl⟩, by decide, by decide⟩
theorem cx_fl_ok_85 : cx_FOK (8, 52, 8, 19, 6) := ⟨D_M, rfl, by decide, cw_111, Or.inr ⟨_, rfl⟩, by decide, by decide⟩
theorem cx_fl_ok_86 : cx_FOK (8, 55, 8, 21, 6) := ⟨D_M, rfl, by decide, cw_112, Or.inr ⟨_, rfl⟩, by decide, by decide⟩
theorem cx_fl_ok_87 : cx_FOK (8, 58, 8, 22, 6) := ⟨D_M, rfl, by decide, cw_113, Or.inr ⟨_, rfl⟩, by decide, by decide⟩
theorem cx_fl_ok_88 : cx_FOK (8, 61, 8, 23, 6) := ⟨D_M, rfl, by decide, cw_114, Or.inr ⟨_, rfl⟩, by decide, by decide⟩
theorem cx_fl_ok_89 : cx_FOK (8, 64, 8, 25, 6) := ⟨D_M, rfl, by decide, cw_115, Or.inr ⟨_, rfl⟩, by decide, by decide⟩
theorem cx_fl_ok_90 : cx_FOK (8, 68, 8, 26, 6) := ⟨D_M, rfl, by decide, cw_116, Or.inr ⟨_, rfl⟩, by decide, by decide⟩
theorem cx_fl_ok_91 : cx_FOK (8, 71, 8, 27, 6) := ⟨D_M, rfl, by decide, cw_117, Or.inr ⟨_, rfl⟩, by decide, by decide⟩
theorem cx_fl_ok_92 : cx_FOK (8, 74, 8, 28, 6) := ⟨D_M, rfl, by decide, cw_118, Or.inr ⟨_, rfl⟩, by decide, by decide⟩
theorem cx_fl_ok_93 : cx_FOK (8, 77, 8, 29, 6) := ⟨D_M, rfl, by decide, cw_119, Or.inr ⟨_, rfl⟩, by decide, by decide⟩
theorem cx_fl_ok_94 : cx_FOK (8, 80, 8, 30, 6) := ⟨D_M, rfl, by decide, cw_120, Or.inr ⟨_, rfl⟩, by decide, by decide⟩
theorem cx_fl_ok_95 : cx_FOK (8, 83, 8, 31, 6) := ⟨D_M, rfl, by decide, cw_121, Or.inr ⟨_, rfl⟩, by decide, by decide⟩
theorem cx_fl_ok_96 : cx_FOK (8, 86, 8, 32, 6) := ⟨D_M, rfl, by decide, cw_122, Or.inr ⟨_, rfl⟩, by decide, by decide⟩
theorem cx_fl_ok_97 : cx_FOK (8, 89, 8, 33, 6) := ⟨D_M, rfl, by decide, cw_123, Or.inr ⟨_, rfl⟩, by decide, by decide⟩
theorem cx_fl_ok_98 : cx_FOK (8, 92, 8, 35, 6) := ⟨D_M, rfl, by decide, cw_124, Or.inr ⟨_, rfl⟩, by decide, by decide⟩
theorem cx_fl_ok_99 : cx_FOK (8, 95, 8, 36, 6) := ⟨D_M, rfl, by decide, cw_125, Or.inr ⟨_, rfl⟩, by decide, by decide⟩
theorem cx_fl_ok_100 : cx_FOK (8, 98, 8, 37, 6) := ⟨D_M, rfl, by decide, cw_126, Or.inr ⟨_, rfl⟩, by decide, by decide⟩
theorem cx_fl_ok_101 : cx_FOK (8, 102, 8, 38, 6) := ⟨D_M, rfl, by decide, cw_127, Or.inr ⟨_, rfl⟩, by decide, by decide⟩
theorem cx_fl_ok_102 : cx_FOK (8, 105, 8, 39, 6) := ⟨D_M, rfl, by decide, cw_128, Or.inr ⟨_, rfl⟩, by decide, by decide⟩
theorem cx_fl_ok_103 : cx_FOK (8, 108, 8, 40, 6) := ⟨D_M, rfl, by decide, cw_129, Or.inr ⟨_, rfl⟩, by decide, by decide⟩
theorem cx_fl_ok_104 : cx_FOK (8, 111, 8, 41, 6) := ⟨D_M, rfl, by decide, cw_130, Or.inr ⟨_, rfl⟩, by decide, by decide⟩
theorem cx_fl_ok_105 : cx_FOK (8, 114, 8, 42, 6) := ⟨D_M, rfl, by decide, cw_131, Or.inr ⟨_, rfl⟩, by decide, by decide⟩
theorem cx_fl_ok_106 : cx_FOK (8, 117, 8, 43, 6) := ⟨D_M, rfl, by decide, cw_132, Or.inr ⟨_, rfl⟩, by decide, by decide⟩
theorem cx_fl_ok_107 : cx_FOK (8, 120, 8, 46, 6) := ⟨D_M, rfl, by decide, cw_133, Or.inr ⟨_, rfl⟩, by decide, by decide⟩
theorem cx_fl_ok_108 : cx_FOK (8, 123, 8, 47, 6) := ⟨D_M, rfl, by decide, cw_134, Or.inr ⟨_, rfl⟩, by decide, by decide⟩
theorem cx_fl_ok_109 : cx_FOK (8, 126, 8, 48, 6) := ⟨D_M, rfl, by decide, cw_135, Or.inr ⟨_, rfl⟩, by decide, by decide⟩
theorem cx_fl_ok_110 : cx_FOK (8, 129, 8, 49, 6) := ⟨D_M, rfl, by decide, cw_136, Or.inr ⟨_, rfl⟩, by decide, by decide⟩
theorem cx_fl_ok_111 : cx_FOK (8, 132, 8, 50, 6) := ⟨D_M, rfl, by decide, cw_137, Or.inr ⟨_, rfl⟩, by decide, by decide⟩
theorem cx_fl_ok_112 : cx_FOK (8, 135, 8, 13, 0) := ⟨D_M, rfl, by decide, cw_138, rfl, by decide, by decide⟩
theorem cx_fl_ok_113 : cx_FOK (8, 168, 8, 0, 0) := ⟨D_M, rfl, by decide, cw_139, rfl, by decide, by decide⟩
theorem cx_fl_ok_114 : cx_FOK (8, 171, 8, 24, 1) := ⟨D_M, rfl, by decide, cw_140, rfl, by decide, by decide⟩
theorem cx_fl_ok_115 : cx_FOK (8, 178, 8, 11, 0) := ⟨D_M, rfl, by decide, cw_141, rfl, by decide, by decide⟩
theorem cx_fl_ok_116 : cx_FOK (8, 184, 8, 12, 0) := ⟨D_M, rfl, by decide, cw_142, rfl, by decide, by decide⟩
theorem cx_fl_ok_117 : cx_FOK (8, 194, 8, 18, 0) := ⟨D_M, rfl, by decide, cw_143, rfl, by decide, by decide⟩
theorem cx_fl_ok_118 : cx_FOK (8, 200, 8, 20, 0) := ⟨D_M, rfl, by decide, cw_144, rfl, by decide, by decide⟩
theorem cx_fl_ok_119 : cx_FOK (8, 213, 8, 34, 0) := ⟨D_M, rfl, by decide, cw_145, rfl, by decide, by decide⟩
theorem cx_fl_ok_120 : cx_FOK (8, 237, 8, 44, 0) := ⟨D_M, rfl, by decide, cw_146, rfl, by decide, by decide⟩
theorem cx_fl_ok_121 : cx_FOK (8, 246, 8, 45, 0) := ⟨D_M, rfl, by decide, cw_147, rfl, by decide, by decide⟩
set_option maxRecDepth 100000 in
theorem cx_fl_ok : ∀ q ∈ cx_fl, cx_FOK q := List.forall_mem_cons.mpr ⟨cx_fl_ok_0, List.forall_mem_cons.mpr ⟨cx_fl_ok_1, List.forall_mem_cons.mpr ⟨cx_fl_ok_2, List.forall_mem_cons.mpr ⟨cx_fl_ok_3, List.forall_mem_cons.mpr ⟨cx_fl_ok_4, List.forall_mem_cons.mpr ⟨cx_fl_ok_5, List.forall_mem_cons.mpr ⟨cx_fl_ok_6, List.forall_mem_cons.mpr ⟨cx_fl_ok_7, List.forall_mem_cons.mpr ⟨cx_fl_ok_8, List.forall_mem_cons.mpr ⟨cx_fl_ok_9, List.forall_mem_cons.mpr ⟨cx_fl_ok_10, List.forall_mem_cons.mpr ⟨cx_fl_ok_11, List.forall_mem_cons.mpr ⟨cx_fl_ok_12, List.forall_mem_cons.mpr ⟨cx_fl_ok_13, List.forall_mem_cons.mpr ⟨cx_fl_ok_14, List.forall_mem_cons.mpr ⟨cx_fl_ok_15, List.forall_mem_cons.mpr ⟨cx_fl_ok_16, List.forall_mem_cons.mpr ⟨cx_fl_ok_17, List.forall_mem_cons.mpr ⟨cx_fl_ok_18, List.forall_mem_cons.mpr ⟨cx_fl_ok_19, List.forall_mem_cons.mpr ⟨cx_fl_ok_20, List.forall_mem_cons.mpr ⟨cx_fl_ok_21, List.forall_mem_cons.mpr ⟨cx_fl_ok_22, List.forall_mem_cons.mpr ⟨cx_fl_ok_23, List.forall_mem_cons.mpr ⟨cx_fl_ok_24, List.forall_mem_cons.mpr ⟨cx_fl_ok_25, List.forall_mem_cons.mpr ⟨cx_fl_ok_26, List.forall_mem_cons.mpr ⟨cx_fl_ok_27, List.forall_mem_cons.mpr ⟨cx_fl_ok_28, List.forall_mem_cons.mpr ⟨cx_fl_ok_29, List.forall_mem_cons.mpr ⟨cx_fl_ok_30, List.forall_mem_cons.mpr ⟨cx_fl_ok_31, List.forall_mem_cons.mpr ⟨cx_fl_ok_32, List.forall_mem_cons.mpr ⟨cx_fl_ok_33, List.forall_mem_cons.mpr ⟨cx_fl_ok_34, List.forall_mem_cons.mpr ⟨cx_fl_ok_35, List.forall_mem_cons.mpr ⟨cx_fl_ok_36, List.forall_mem_cons.mpr ⟨cx_fl_ok_37, List.forall_mem_cons.mpr ⟨cx_fl_ok_38, List.forall_mem_cons.mpr ⟨cx_fl_ok_39, List.forall_mem_cons.mpr ⟨cx_fl_ok_40, List.forall_mem_cons.mpr ⟨cx_fl_ok_41, List.forall_mem_cons.mpr ⟨cx_fl_ok_42, List.forall_mem_cons.mpr ⟨cx_fl_ok_43, List.forall_mem_cons.mpr ⟨cx_fl_ok_44, List.forall_mem_cons.mpr ⟨cx_fl_ok_45, List.forall_mem_cons.mpr ⟨cx_fl_ok_46, List.forall_mem_cons.mpr ⟨cx_fl_ok_47, List.forall_mem_cons.mpr ⟨cx_fl_ok_48, List.forall_mem_cons.mpr ⟨cx_fl_ok_49, List.forall_mem_cons.mpr ⟨cx_fl_ok_50, List.forall_mem_cons.mpr ⟨cx_fl_ok_51, List.forall_mem_cons.mpr ⟨cx_fl_ok_52, List.forall_mem_cons.mpr ⟨cx_fl_ok_53, List.forall_mem_cons.mpr ⟨cx_fl_ok_54, List.forall_mem_cons.mpr ⟨cx_fl_ok_55, List.forall_mem_cons.mpr ⟨cx_fl_ok_56, List.forall_mem_cons.mpr ⟨cx_fl_ok_57, List.forall_mem_cons.mpr ⟨cx_fl_ok_58, List.forall_mem_cons.mpr ⟨cx_fl_ok_59, List.forall_mem_cons.mpr ⟨cx_fl_ok_60, List.forall_mem_cons.mpr ⟨cx_fl_ok_61, List.forall_mem_cons.mpr ⟨cx_fl_ok_62, List.forall_mem_cons.mpr ⟨cx_fl_ok_63, List.forall_mem_cons.mpr ⟨cx_fl_ok_64, List.forall_mem_cons.mpr ⟨cx_fl_ok_65, List.forall_mem_cons.mpr ⟨cx_fl_ok_66, List.forall_mem_cons.mpr ⟨cx_fl_ok_67, List.forall_mem_cons.mpr ⟨cx_fl_ok_68, List.forall_mem_cons.mpr ⟨cx_fl_ok_69, List.forall_mem_cons.mpr ⟨cx_fl_ok_70, List.forall_mem_cons.mpr ⟨cx_fl_ok_71, List.forall_mem_cons.mpr ⟨cx_fl_ok_72, List.forall_mem_cons.mpr ⟨cx_fl_ok_73, List.forall_mem_cons.mpr ⟨cx_fl_ok_74, List.forall_mem_cons.mpr ⟨cx_fl_ok_75, List.forall_mem_cons.mpr ⟨cx_fl_ok_76, List.forall_mem_cons.mpr ⟨cx_fl_ok_77, List.forall_mem_cons.mpr ⟨cx_fl_ok_78, List.forall_mem_cons.mpr ⟨cx_fl_ok_79, List.forall_mem_cons.mpr ⟨cx_fl_ok_80, List.forall_mem_cons.mpr ⟨cx_fl_ok_81, List.forall_mem_cons.mpr ⟨cx_fl_ok_82, List.forall_mem_cons.mpr ⟨cx_fl_ok_83, List.forall_mem_cons.mpr ⟨cx_fl_ok_84, List.forall_mem_cons.mpr ⟨cx_fl_ok_85, List.forall_mem_cons.mpr ⟨cx_fl_ok_86, List.forall_mem_cons.mpr ⟨cx_fl_ok_87, List.forall_mem_cons.mpr ⟨cx_fl_ok_88, List.forall_mem_cons.mpr ⟨cx_fl_ok_89, List.forall_mem_cons.mpr ⟨cx_fl_ok_90, List.forall_mem_cons.mpr ⟨cx_fl_ok_91, List.forall_mem_cons.mpr ⟨cx_fl_ok_92, List.forall_mem_cons.mpr ⟨cx_fl_ok_93, List.forall_mem_cons.mpr ⟨cx_fl_ok_94, List.forall_mem_cons.mpr ⟨cx_fl_ok_95, List.forall_mem_cons.mpr ⟨cx_fl_ok_96, List.forall_mem_cons.mpr ⟨cx_fl_ok_97, List.forall_mem_cons.mpr ⟨cx_fl_ok_98, List.forall_mem_cons.mpr ⟨cx_fl_ok_99, List.forall_mem_cons.mpr ⟨cx_fl_ok_100, List.forall_mem_cons.mpr ⟨cx_fl_ok_101, List.forall_mem_cons.mpr ⟨cx_fl_ok_102, List.forall_mem_cons.mpr ⟨cx_fl_ok_103, List.forall_mem_cons.mpr ⟨cx_fl_ok_104, List.forall_mem_cons.mpr ⟨cx_fl_ok_105, List.forall_mem_cons.mpr ⟨cx_fl_ok_106, List.forall_mem_cons.mpr ⟨cx_fl_ok_107, List.forall_mem_cons.mpr ⟨cx_fl_ok_108, List.forall_mem_cons.mpr ⟨cx_fl_ok_109, List.forall_mem_cons.mpr ⟨cx_fl_ok_110, List.forall_mem_cons.mpr ⟨cx_fl_ok_111, List.forall_mem_cons.mpr ⟨cx_fl_ok_112, List.forall_mem_cons.mpr ⟨cx_fl_ok_113, List.forall_mem_cons.mpr ⟨cx_fl_ok_114, List.forall_mem_cons.mpr ⟨cx_fl_ok_115, List.forall_mem_cons.mpr ⟨cx_fl_ok_116, List.forall_mem_cons.mpr ⟨cx_fl_ok_117, List.forall_mem_cons.mpr ⟨cx_fl_ok_118, List.forall_mem_cons.mpr ⟨cx_fl_ok_119, List.forall_mem_cons.mpr ⟨cx_fl_ok_120, List.forall_mem_cons.mpr ⟨cx_fl_ok_121, fun _ h => absurd h List.not_mem_nil⟩⟩⟩⟩⟩⟩⟩⟩⟩⟩⟩⟩⟩⟩⟩⟩⟩⟩⟩⟩⟩⟩⟩⟩⟩⟩⟩⟩⟩⟩⟩⟩⟩⟩⟩⟩⟩⟩⟩⟩⟩⟩⟩⟩⟩⟩⟩⟩⟩⟩⟩⟩⟩⟩⟩⟩⟩⟩⟩⟩⟩⟩⟩⟩⟩⟩⟩⟩⟩⟩⟩⟩⟩⟩⟩⟩⟩⟩⟩⟩⟩⟩⟩⟩⟩⟩⟩⟩⟩⟩⟩⟩⟩⟩⟩⟩⟩⟩⟩⟩⟩⟩⟩⟩⟩⟩⟩⟩⟩⟩⟩⟩⟩⟩⟩⟩⟩⟩⟩⟩⟩⟩
theorem cx_nl_ok_0 : ∃ D0 : cx_D, cx_cd[1]? = some D0 ∧ Cond.classLink (cx_cn 0) 7 D0.1 ∈ cx_tb := ⟨D_Gr, rfl, cw_148⟩
theorem cx_nl_ok_1 : ∃ D0 : cx_D, cx_cd[2]? = some D0 ∧ Cond.classLink (cx_cn 0) 16 D0.1 ∈ cx_tb := ⟨D_Ci, rfl, cw_149⟩
theorem cx_nl_ok_2 : ∃ D0 : cx_D, cx_cd[3]? = some D0 ∧ Cond.classLink (cx_cn 0) 25 D0.1 ∈ cx_tb := ⟨D_Li, rfl, cw_150⟩
theorem cx_nl_ok_3 : ∃ D0 : cx_D, cx_cd[4]? = some D0 ∧ Cond.classLink (cx_cn 0) 32 D0.1 ∈ cx_tb := ⟨D_Co, rfl, cw_151⟩
theorem cx_nl_ok_4 : ∃ D0 : cx_D, cx_cd[5]? = some D0 ∧ Cond.classLink (cx_cn 0) 41 D0.1 ∈ cx_tb := ⟨D_Cn, rfl, cw_152⟩
theorem cx_nl_ok_5 : ∃ D0 : cx_D, cx_cd[6]? = some D0 ∧ Cond.classLink (cx_cn 0) 50 D0.1 ∈ cx_tb := ⟨D_Re, rfl, cw_153⟩
theorem cx_nl_ok_6 : ∃ D0 : cx_D, cx_cd[7]? = some D0 ∧ Cond.classLink (cx_cn 0) 59 D0.1 ∈ cx_tb := ⟨D_Ma, rfl, cw_154⟩
theorem cx_nl_ok_7 : ∃ D0 : cx_D, cx_cd[0]? = some D0 ∧ Cond.classLink (cx_cn 9) 7 D0.1 ∈ cx_tb := ⟨D_C, rfl, cw_155⟩
theorem cx_nl_ok_8 : ∃ D0 : cx_D, cx_cd[8]? = some D0 ∧ Cond.classLink (cx_cn 9) 10 D0.1 ∈ cx_tb := ⟨D_M, rfl, cw_156⟩
set_option maxRecDepth 100000 in
theorem cx_nl_ok : ∀ q ∈ cx_nl, ∃ D0 : cx_D, cx_cd[q.2.2]? = some D0 ∧ Cond.classLink (cx_cn q.1) q.2.1 D0.1 ∈ cx_tb := List.forall_mem_cons.mpr ⟨cx_nl_ok_0, List.forall_mem_cons.mpr ⟨cx_nl_ok_1, List.forall_mem_cons.mpr ⟨cx_nl_ok_2, List.forall_mem_cons.mpr ⟨cx_nl_ok_3, List.forall_mem_cons.mpr ⟨cx_nl_ok_4, List.forall_mem_cons.mpr ⟨cx_nl_ok_5, List.forall_mem_cons.mpr ⟨cx_nl_ok_6, List.forall_mem_cons.mpr ⟨cx_nl_ok_7, List.forall_mem_cons.mpr ⟨cx_nl_ok_8, fun _ h => absurd h List.not_mem_nil⟩⟩⟩⟩⟩⟩⟩⟩⟩
theorem pd_0 : ((cx_y (cx_m 0)).cls ≠ "java/lang/invoke/MethodHandle" ∧ (cx_y (cx_m 0)).cls ≠ "java/lang/invoke/VarHandle" ∧ (parseMethodDescriptor (cx_y (cx_m 0)).desc).map (fun d => d.parameters.length) = some 0) := by decide +kernel
theorem pd_1 : ((cx_y (cx_m 1)).cls ≠ "java/lang/invoke/MethodHandle" ∧ (cx_y (cx_m 1)).cls ≠ "java/lang/invoke/VarHandle" ∧ (parseMethodDescriptor (cx_y (cx_m 1)).desc).map (fun d => d.parameters.length) = some 0) := by decide +kernel
theorem pd_2 : ((cx_y (cx_m 2)).cls ≠ "java/lang/invoke/MethodHandle" ∧ (cx_y (cx_m 2)).cls ≠ "java/lang/invoke/VarHandle" ∧ (parseMethodDescriptor (cx_y (cx_m 2)).desc).map (fun d => d.parameters.length) = some 1) := by decide +kernel
theorem pd_3 : ((cx_y (cx_m 3)).cls ≠ "java/lang/invoke/MethodHandle" ∧ (cx_y (cx_m 3)).cls ≠ "java/lang/invoke/VarHandle" ∧ (parseMethodDescriptor (cx_y (cx_m 3)).desc).map (fun d => d.parameters.length) = some 4) := by decide +kernel
theorem pd_4 : ((cx_y (cx_m 4)).cls ≠ "java/lang/invoke/MethodHandle" ∧ (cx_y (cx_m 4)).cls ≠ "java/lang/invoke/VarHandle" ∧ (parseMethodDescriptor (cx_y (cx_m 4)).desc).map (fun d => d.parameters.length) = some 2) := by decide +kernel
theorem pd_5 : ((cx_y (cx_m 5)).cls ≠ "java/lang/invoke/MethodHandle" ∧ (cx_y (cx_m 5)).cls ≠ "java/lang/invoke/VarHandle" ∧ (parseMethodDescriptor (cx_y (cx_m 5)).desc).map (fun d => d.parameters.length) = some 1) := by decide +kernel
theorem pd_6 : ((cx_y (cx_m 6)).cls ≠ "java/lang/invoke/MethodHandle" ∧ (cx_y (cx_m 6)).cls ≠ "java/lang/invoke/VarHandle" ∧ (parseMethodDescriptor (cx_y (cx_m 6)).desc).map (fun d => d.parameters.length) = some 3) := by decide +kernel
theorem pd_7 : ((cx_y (cx_m 7)).cls ≠ "java/lang/invoke/MethodHandle" ∧ (cx_y (cx_m 7)).cls ≠ "java/lang/invoke/VarHandle" ∧ (parseMethodDescriptor (cx_y (cx_m 7)).desc).map (fun d => d.parameters.length) = some 0) := by decide +kernel
theorem pd_8 : ((cx_y (cx_m 8)).cls ≠ "java/lang/invoke/MethodHandle" ∧ (cx_y (cx_m 8)).cls ≠ "java/lang/invoke/VarHandle" ∧ (parseMethodDescriptor (cx_y (cx_m 8)).desc).map (fun d => d.parameters.length) = some 1) := by decide +kernel
theorem pd_9 : ((cx_y (cx_m 9)).cls ≠ "java/lang/invoke/MethodHandle" ∧ (cx_y (cx_m 9)).cls ≠ "java/lang/invoke/VarHandle" ∧ (parseMethodDescriptor (cx_y (cx_m 9)).desc).map (fun d => d.parameters.length) = some 2) := by decide +kernel
theorem pd_10 : ((cx_y (cx_m 10)).cls ≠ "java/lang/invoke/MethodHandle" ∧ (cx_y (cx_m 10)).cls ≠ "java/lang/invoke/VarHandle" ∧ (parseMethodDescriptor (cx_y (cx_m 10)).desc).map (fun d => d.parameters.length) = some 0) := by decide +kernel
theorem pd_11 : ((cx_y (cx_m 11)).cls ≠ "java/lang/invoke/MethodHandle" ∧ (cx_y (cx_m 11)).cls ≠ "java/lang/invoke/VarHandle" ∧ (parseMethodDescriptor (cx_y (cx_m 11)).desc).map (fun d => d.parameters.length) = some 0) := by decide +kernel
theorem pd_12 : ((cx_y (cx_m 12)).cls ≠ "java/lang/invoke/MethodHandle" ∧ (cx_y (cx_m 12)).cls ≠ "java/lang/invoke/VarHandle" ∧ (parseMethodDescriptor (cx_y (cx_m 12)).desc).map (fun d => d.parameters.length) = some 1) := by decide +kernel
theorem pd_13 : ((cx_y (cx_m 13)).cls ≠ "java/lang/invoke/MethodHandle" ∧ (cx_y (cx_m 13)).cls ≠ "java/lang/invoke/VarHandle" ∧ (parseMethodDescriptor (cx_y (cx_m 13)).desc).map (fun d => d.parameters.length) = some 0) := by decide +kernel
theorem pd_14 : ((cx_y (cx_m 14)).cls ≠ "java/lang/invoke/MethodHandle" ∧ (cx_y (cx_m 14)).cls ≠ "java/lang/invoke/VarHandle" ∧ (parseMethodDescriptor (cx_y (cx_m 14)).desc).map (fun d => d.parameters.length) = some 0) := by decide +kernel
theorem pd_15 : ((cx_y (cx_m 15)).cls ≠ "java/lang/invoke/MethodHandle" ∧ (cx_y (cx_m 15)).cls ≠ "java/lang/invoke/VarHandle" ∧ (parseMethodDescriptor (cx_y (cx_m 15)).desc).map (fun d => d.parameters.length) = some 1) := by decide +kernel
theorem pd_16 : ((cx_y (cx_m 16)).cls ≠ "java/lang/invoke/MethodHandle" ∧ (cx_y (cx_m 16)).cls ≠ "java/lang/invoke/VarHandle" ∧ (parseMethodDescriptor (cx_y (cx_m 16)).desc).map (fun d => d.parameters.length) = some 2) := by decide +kernel
theorem pd_17 : ((cx_y (cx_m 17)).cls ≠ "java/lang/invoke/MethodHandle" ∧ (cx_y (cx_m 17)).cls ≠ "java/lang/invoke/VarHandle" ∧ (parseMethodDescriptor (cx_y (cx_m 17)).desc).map (fun d => d.parameters.length) = some 1) := by decide +kernel
theorem pd_18 : ((cx_y (cx_m 18)).cls ≠ "java/lang/invoke/MethodHandle" ∧ (cx_y (cx_m 18)).cls ≠ "java/lang/invoke/VarHandle" ∧ (parseMethodDescriptor (cx_y (cx_m 18)).desc).map (fun d => d.parameters.length) = some 1) := by decide +kernel
theorem pd_19 : ((cx_y (cx_m 19)).cls ≠ "java/lang/invoke/MethodHandle" ∧ (cx_y (cx_m 19)).cls ≠ "java/lang/invoke/VarHandle" ∧ (parseMethodDescriptor (cx_y (cx_m 19)).desc).map (fun d => d.parameters.length) = some 0) := by decide +kernel
theorem pd_20 : ((cx_y (cx_m 20)).cls ≠ "java/lang/invoke/MethodHandle" ∧ (cx_y (cx_m 20)).cls ≠ "java/lang/invoke/VarHandle" ∧ (parseMethodDescriptor (cx_y (cx_m 20)).desc).map (fun d => d.parameters.length) = some 1) := by decide +kernel
theorem pd_21 : ((cx_y (cx_m 21)).cls ≠ "java/lang/invoke/MethodHandle" ∧ (cx_y (cx_m 21)).cls ≠ "java/lang/invoke/VarHandle" ∧ (parseMethodDescriptor (cx_y (cx_m 21)).desc).map (fun d => d.parameters.length) = some 2) := by decide +kernel
theorem pd_22 : ((cx_y (cx_m 22)).cls ≠ "java/lang/invoke/MethodHandle" ∧ (cx_y (cx_m 22)).cls ≠ "java/lang/invoke/VarHandle" ∧ (parseMethodDescriptor (cx_y (cx_m 22)).desc).map (fun d => d.parameters.length) = some 2) := by decide +kernel
theorem pd_23 : ((cx_y (cx_m 23)).cls ≠ "java/lang/invoke/MethodHandle" ∧ (cx_y (cx_m 23)).cls ≠ "java/lang/invoke/VarHandle" ∧ (parseMethodDescriptor (cx_y (cx_m 23)).desc).map (fun d => d.parameters.length) = some 0) := by decide +kernel
theorem pd_24 : ((cx_y (cx_m 24)).cls ≠ "java/lang/invoke/MethodHandle" ∧ (cx_y (cx_m 24)).cls ≠ "java/lang/invoke/VarHandle" ∧ (parseMethodDescriptor (cx_y (cx_m 24)).desc).map (fun d => d.parameters.length) = some 0) := by decide +kernel
theorem pd_25 : ((cx_y (cx_m 25)).cls ≠ "java/lang/invoke/MethodHandle" ∧ (cx_y (cx_m 25)).cls ≠ "java/lang/invoke/VarHandle" ∧ (parseMethodDescriptor (cx_y (cx_m 25)).desc).map (fun d => d.parameters.length) = some 1) := by decide +kernel
theorem pd_26 : ((cx_y (cx_m 26)).cls ≠ "java/lang/invoke/MethodHandle" ∧ (cx_y (cx_m 26)).cls ≠ "java/lang/invoke/VarHandle" ∧ (parseMethodDescriptor (cx_y (cx_m 26)).desc).map (fun d => d.parameters.length) = some 1) := by decide +kernel
theorem pd_27 : ((cx_y (cx_m 27)).cls ≠ "java/lang/invoke/MethodHandle" ∧ (cx_y (cx_m 27)).cls ≠ "java/lang/invoke/VarHandle" ∧ (parseMethodDescriptor (cx_y (cx_m 27)).desc).map (fun d => d.parameters.length) = some 1) := by decide +kernel
theorem pd_28 : ((cx_y (cx_m 28)).cls ≠ "java/lang/invoke/MethodHandle" ∧ (cx_y (cx_m 28)).cls ≠ "java/lang/invoke/VarHandle" ∧ (parseMethodDescriptor (cx_y (cx_m 28)).desc).map (fun d => d.parameters.length) = some 1) := by decide +kernel
theorem pd_29 : ((cx_y (cx_m 29)).cls ≠ "java/lang/invoke/MethodHandle" ∧ (cx_y (cx_m 29)).cls ≠ "java/lang/invoke/VarHandle" ∧ (parseMethodDescriptor (cx_y (cx_m 29)).desc).map (fun d => d.parameters.length) = some 1) := by decide +kernel
theorem pd_30 : ((cx_y (cx_m 30)).cls ≠ "java/lang/invoke/MethodHandle" ∧ (cx_y (cx_m 30)).cls ≠ "java/lang/invoke/VarHandle" ∧ (parseMethodDescriptor (cx_y (cx_m 30)).desc).map (fun d => d.parameters.length) = some 1) := by decide +kernel
theorem pd_31 : ((cx_y (cx_m 31)).cls ≠ "java/lang/invoke/MethodHandle" ∧ (cx_y (cx_m 31)).cls ≠ "java/lang/invoke/VarHandle" ∧ (parseMethodDescriptor (cx_y (cx_m 31)).desc).map (fun d => d.parameters.length) = some 1) := by decide +kernel
theorem pd_32 : ((cx_y (cx_m 32)).cls ≠ "java/lang/invoke/MethodHandle" ∧ (cx_y (cx_m 32)).cls ≠ "java/lang/invoke/VarHandle" ∧ (parseMethodDescriptor (cx_y (cx_m 32)).desc).map (fun d => d.parameters.length) = some 1) := by decide +kernel
theorem pd_33 : ((cx_y (cx_m 33)).cls ≠ "java/lang/invoke/MethodHandle" ∧ (cx_y (cx_m 33)).cls ≠ "java/lang/invoke/VarHandle" ∧ (parseMethodDescriptor (cx_y (cx_m 33)).desc).map (fun d => d.parameters.length) = some 1) := by decide +kernel
theorem pd_34 : ((cx_y (cx_m 34)).cls ≠ "java/lang/invoke/MethodHandle" ∧ (cx_y (cx_m 34)).cls ≠ "java/lang/invoke/VarHandle" ∧ (parseMethodDescriptor (cx_y (cx_m 34)).desc).map (fun d => d.parameters.length) = some 1) := by decide +kernel
theorem pd_35 : ((cx_y (cx_m 35)).cls ≠ "java/lang/invoke/MethodHandle" ∧ (cx_y (cx_m 35)).cls ≠ "java/lang/invoke/VarHandle" ∧ (parseMethodDescriptor (cx_y (cx_m 35)).desc).map (fun d => d.parameters.length) = some 1) := by decide +kernel
theorem pd_36 : ((cx_y (cx_m 36)).cls ≠ "java/lang/invoke/MethodHandle" ∧ (cx_y (cx_m 36)).cls ≠ "java/lang/invoke/VarHandle" ∧ (parseMethodDescriptor (cx_y (cx_m 36)).desc).map (fun d => d.parameters.length) = some 1) := by decide +kernel
theorem pd_37 : ((cx_y (cx_m 37)).cls ≠ "java/lang/invoke/MethodHandle" ∧ (cx_y (cx_m 37)).cls ≠ "java/lang/invoke/VarHandle" ∧ (parseMethodDescriptor (cx_y (cx_m 37)).desc).map (fun d => d.parameters.length) = some 2) := by decide +kernel
theorem pd_38 : ((cx_y (cx_m 38)).cls ≠ "java/lang/invoke/MethodHandle" ∧ (cx_y (cx_m 38)).cls ≠ "java/lang/invoke/VarHandle" ∧ (parseMethodDescriptor (cx_y (cx_m 38)).desc).map (fun d => d.parameters.length) = some 3) := by decide +kernel
theorem pd_39 : ((cx_y (cx_m 39)).cls ≠ "java/lang/invoke/MethodHandle" ∧ (cx_y (cx_m 39)).cls ≠ "java/lang/invoke/VarHandle" ∧ (parseMethodDescriptor (cx_y (cx_m 39)).desc).map (fun d => d.parameters.length) = some 3) := by decide +kernel
theorem pd_40 : ((cx_y (cx_m 40)).cls ≠ "java/lang/invoke/MethodHandle" ∧ (cx_y (cx_m 40)).cls ≠ "java/lang/invoke/VarHandle" ∧ (parseMethodDescriptor (cx_y (cx_m 40)).desc).map (fun d => d.parameters.length) = some 1) := by decide +kernel
theorem pd_41 : ((cx_y (cx_m 41)).cls ≠ "java/lang/invoke/MethodHandle" ∧ (cx_y (cx_m 41)).cls ≠ "java/lang/invoke/VarHandle" ∧ (parseMethodDescriptor (cx_y (cx_m 41)).desc).map (fun d => d.parameters.length) = some 1) := by decide +kernel
theorem pd_42 : ((cx_y (cx_m 42)).cls ≠ "java/lang/invoke/MethodHandle" ∧ (cx_y (cx_m 42)).cls ≠ "java/lang/invoke/VarHandle" ∧ (parseMethodDescriptor (cx_y (cx_m 42)).desc).map (fun d => d.parameters.length) = some 1) := by decide +kernel
theorem pd_43 : ((cx_y (cx_m 43)).cls ≠ "java/lang/invoke/MethodHandle" ∧ (cx_y (cx_m 43)).cls ≠ "java/lang/invoke/VarHandle" ∧ (parseMethodDescriptor (cx_y (cx_m 43)).desc).map (fun d => d.parameters.length) = some 1) := by decide +kernel
theorem pd_44 : ((cx_y (cx_m 44)).cls ≠ "java/lang/invoke/MethodHandle" ∧ (cx_y (cx_m 44)).cls ≠ "java/lang/invoke/VarHandle" ∧ (parseMethodDescriptor (cx_y (cx_m 44)).desc).map (fun d => d.parameters.length) = some 0) := by decide +kernel
theorem pd_45 : ((cx_y (cx_m 45)).cls ≠ "java/lang/invoke/MethodHandle" ∧ (cx_y (cx_m 45)).cls ≠ "java/lang/invoke/VarHandle" ∧ (parseMethodDescriptor (cx_y (cx_m 45)).desc).map (fun d => d.parameters.length) = some 1) := by decide +kernel
theorem pd_46 : ((cx_y (cx_m 46)).cls ≠ "java/lang/invoke/MethodHandle" ∧ (cx_y (cx_m 46)).cls ≠ "java/lang/invoke/VarHandle" ∧ (parseMethodDescriptor (cx_y (cx_m 46)).desc).map (fun d => d.parameters.length) = some 0) := by decide +kernel
theorem pd_47 : ((cx_y (cx_m 47)).cls ≠ "java/lang/invoke/MethodHandle" ∧ (cx_y (cx_m 47)).cls ≠ "java/lang/invoke/VarHandle" ∧ (parseMethodDescriptor (cx_y (cx_m 47)).desc).map (fun d => d.parameters.length) = some 1) := by decide +kernel
theorem pd_48 : ((cx_y (cx_m 48)).cls ≠ "java/lang/invoke/MethodHandle" ∧ (cx_y (cx_m 48)).cls ≠ "java/lang/invoke/VarHandle" ∧ (parseMethodDescriptor (cx_y (cx_m 48)).desc).map (fun d => d.parameters.length) = some 1) := by decide +kernel
theorem pd_49 : ((cx_y (cx_m 49)).cls ≠ "java/lang/invoke/MethodHandle" ∧ (cx_y (cx_m 49)).cls ≠ "java/lang/invoke/VarHandle" ∧ (parseMethodDescriptor (cx_y (cx_m 49)).desc).map (fun d => d.parameters.length) = some 0) := by decide +kernel
theorem pd_50 : ((cx_y (cx_m 50)).cls ≠ "java/lang/invoke/MethodHandle" ∧ (cx_y (cx_m 50)).cls ≠ "java/lang/invoke/VarHandle" ∧ (parseMethodDescriptor (cx_y (cx_m 50)).desc).map (fun d => d.parameters.length) = some 1) := by decide +kernel
theorem pd_51 : ((cx_y (cx_m 51)).cls ≠ "java/lang/invoke/MethodHandle" ∧ (cx_y (cx_m 51)).cls ≠ "java/lang/invoke/VarHandle" ∧ (parseMethodDescriptor (cx_y (cx_m 51)).desc).map (fun d => d.parameters.length) = some 3) := by decide +kernel
theorem pd_52 : ((cx_y (cx_m 52)).cls ≠ "java/lang/invoke/MethodHandle" ∧ (cx_y (cx_m 52)).cls ≠ "java/lang/invoke/VarHandle" ∧ (parseMethodDescriptor (cx_y (cx_m 52)).desc).map (fun d => d.parameters.length) = some 4) := by decide +kernel
theorem pd_53 : ((cx_y (cx_m 53)).cls ≠ "java/lang/invoke/MethodHandle" ∧ (cx_y (cx_m 53)).cls ≠ "java/lang/invoke/VarHandle" ∧ (parseMethodDescriptor (cx_y (cx_m 53)).desc).map (fun d => d.parameters.length) = some 2) := by decide +kernel
theorem pd_54 : ((cx_y (cx_m 54)).cls ≠ "java/lang/invoke/MethodHandle" ∧ (cx_y (cx_m 54)).cls ≠ "java/lang/invoke/VarHandle" ∧ (parseMethodDescriptor (cx_y (cx_m 54)).desc).map (fun d => d.parameters.length) = some 1) := by decide +kernel
theorem pd_55 : ((cx_y (cx_m 55)).cls ≠ "java/lang/invoke/MethodHandle" ∧ (cx_y (cx_m 55)).cls ≠ "java/lang/invoke/VarHandle" ∧ (parseMethodDescriptor (cx_y (cx_m 55)).desc).map (fun d => d.parameters.length) = some 0) := by decide +kernel
theorem pd_56 : ((cx_y (cx_m 56)).cls ≠ "java/lang/invoke/MethodHandle" ∧ (cx_y (cx_m 56)).cls ≠ "java/lang/invoke/VarHandle" ∧ (parseMethodDescriptor (cx_y (cx_m 56)).desc).map (fun d => d.parameters.length) = some 0) := by decide +kernel
theorem pd_57 : ((cx_y (cx_m 57)).cls ≠ "java/lang/invoke/MethodHandle" ∧ (cx_y (cx_m 57)).cls ≠ "java/lang/invoke/VarHandle" ∧ (parseMethodDescriptor (cx_y (cx_m 57)).desc).map (fun d => d.parameters.length) = some 0) := by decide +kernel
theorem pd_58 : ((cx_y (cx_m 58)).cls ≠ "java/lang/invoke/MethodHandle" ∧ (cx_y (cx_m 58)).cls ≠ "java/lang/invoke/VarHandle" ∧ (parseMethodDescriptor (cx_y (cx_m 58)).desc).map (fun d => d.parameters.length) = some 1) := by decide +kernel
theorem pd_59 : ((cx_y (cx_m 59)).cls ≠ "java/lang/invoke/MethodHandle" ∧ (cx_y (cx_m 59)).cls ≠ "java/lang/invoke/VarHandle" ∧ (parseMethodDescriptor (cx_y (cx_m 59)).desc).map (fun d => d.parameters.length) = some 2) := by decide +kernel
theorem pd_60 : ((cx_y (cx_m 60)).cls ≠ "java/lang/invoke/MethodHandle" ∧ (cx_y (cx_m 60)).cls ≠ "java/lang/invoke/VarHandle" ∧ (parseMethodDescriptor (cx_y (cx_m 60)).desc).map (fun d => d.parameters.length) = some 4) := by decide +kernel
theorem pd_61 : ((cx_y (cx_m 61)).cls ≠ "java/lang/invoke/MethodHandle" ∧ (cx_y (cx_m 61)).cls ≠ "java/lang/invoke/VarHandle" ∧ (parseMethodDescriptor (cx_y (cx_m 61)).desc).map (fun d => d.parameters.length) = some 6) := by decide +kernel
theorem pd_62 : ((cx_y (cx_m 62)).cls ≠ "java/lang/invoke/MethodHandle" ∧ (cx_y (cx_m 62)).cls ≠ "java/lang/invoke/VarHandle" ∧ (parseMethodDescriptor (cx_y (cx_m 62)).desc).map (fun d => d.parameters.length) = some 2) := by decide +kernel
theorem pd_63 : ((cx_y (cx_m 63)).cls ≠ "java/lang/invoke/MethodHandle" ∧ (cx_y (cx_m 63)).cls ≠ "java/lang/invoke/VarHandle" ∧ (parseMethodDescriptor (cx_y (cx_m 63)).desc).map (fun d => d.parameters.length) = some 1) := by decide +kernel
theorem pd_64 : ((cx_y (cx_m 64)).cls ≠ "java/lang/invoke/MethodHandle" ∧ (cx_y (cx_m 64)).cls ≠ "java/lang/invoke/VarHandle" ∧ (parseMethodDescriptor (cx_y (cx_m 64)).desc).map (fun d => d.parameters.length) = some 2) := by decide +kernel
theorem pd_65 : ((cx_y (cx_m 65)).cls ≠ "java/lang/invoke/MethodHandle" ∧ (cx_y (cx_m 65)).cls ≠ "java/lang/invoke/VarHandle" ∧ (parseMethodDescriptor (cx_y (cx_m 65)).desc).map (fun d => d.parameters.length) = some 0) := by decide +kernel
theorem pd_66 : ((cx_y (cx_m 66)).cls ≠ "java/lang/invoke/MethodHandle" ∧ (cx_y (cx_m 66)).cls ≠ "java/lang/invoke/VarHandle" ∧ (parseMethodDescriptor (cx_y (cx_m 66)).desc).map (fun d => d.parameters.length) = some 0) := by decide +kernel
theorem pd_67 : ((cx_y (cx_m 67)).cls ≠ "java/lang/invoke/MethodHandle" ∧ (cx_y (cx_m 67)).cls ≠ "java/lang/invoke/VarHandle" ∧ (parseMethodDescriptor (cx_y (cx_m 67)).desc).map (fun d => d.parameters.length) = some 1) := by decide +kernel
theorem pd_68 : ((cx_y (cx_m 68)).cls ≠ "java/lang/invoke/MethodHandle" ∧ (cx_y (cx_m 68)).cls ≠ "java/lang/invoke/VarHandle" ∧ (parseMethodDescriptor (cx_y (cx_m 68)).desc).map (fun d => d.parameters.length) = some 1) := by decide +kernel
theorem pd_69 : ((cx_y (cx_m 69)).cls ≠ "java/lang/invoke/MethodHandle" ∧ (cx_y (cx_m 69)).cls ≠ "java/lang/invoke/VarHandle" ∧ (parseMethodDescriptor (cx_y (cx_m 69)).desc).map (fun d => d.parameters.length) = some 1) := by decide +kernel
theorem pd_70 : ((cx_y (cx_m 70)).cls ≠ "java/lang/invoke/MethodHandle" ∧ (cx_y (cx_m 70)).cls ≠ "java/lang/invoke/VarHandle" ∧ (parseMethodDescriptor (cx_y (cx_m 70)).desc).map (fun d => d.parameters.length) = some 1) := by decide +kernel
theorem pd_71 : ((cx_y (cx_m 71)).cls ≠ "java/lang/invoke/MethodHandle" ∧ (cx_y (cx_m 71)).cls ≠ "java/lang/invoke/VarHandle" ∧ (parseMethodDescriptor (cx_y (cx_m 71)).desc).map (fun d => d.parameters.length) = some 2) := by decide +kernel
theorem pd_72 : ((cx_y (cx_m 72)).cls ≠ "java/lang/invoke/MethodHandle" ∧ (cx_y (cx_m 72)).cls ≠ "java/lang/invoke/VarHandle" ∧ (parseMethodDescriptor (cx_y (cx_m 72)).desc).map (fun d => d.parameters.length) = some 2) := by decide +kernel
theorem pd_73 : ((cx_y (cx_m 73)).cls ≠ "java/lang/invoke/MethodHandle" ∧ (cx_y (cx_m 73)).cls ≠ "java/lang/invoke/VarHandle" ∧ (parseMethodDescriptor (cx_y (cx_m 73)).desc).map (fun d => d.parameters.length) = some 0) := by decide +kernel
theorem pd_74 : ((cx_y (cx_m 74)).cls ≠ "java/lang/invoke/MethodHandle" ∧ (cx_y (cx_m 74)).cls ≠ "java/lang/invoke/VarHandle" ∧ (parseMethodDescriptor (cx_y (cx_m 74)).desc).map (fun d => d.parameters.length) = some 3) := by decide +kernel
theorem pd_75 : ((cx_y (cx_m 75)).cls ≠ "java/lang/invoke/MethodHandle" ∧ (cx_y (cx_m 75)).cls ≠ "java/lang/invoke/VarHandle" ∧ (parseMethodDescriptor (cx_y (cx_m 75)).desc).map (fun d => d.parameters.length) = some 1) := by decide +kernel
theorem pd_76 : ((cx_y (cx_m 76)).cls ≠ "java/lang/invoke/MethodHandle" ∧ (cx_y (cx_m 76)).cls ≠ "java/lang/invoke/VarHandle" ∧ (parseMethodDescriptor (cx_y (cx_m 76)).desc).map (fun d => d.parameters.length) = some 2) := by decide +kernel
theorem pd_77 : ((cx_y (cx_m 77)).cls ≠ "java/lang/invoke/MethodHandle" ∧ (cx_y (cx_m 77)).cls ≠ "java/lang/invoke/VarHandle" ∧ (parseMethodDescriptor (cx_y (cx_m 77)).desc).map (fun d => d.parameters.length) = some 1) := by decide +kernel
theorem pd_78 : ((cx_y (cx_m 78)).cls ≠ "java/lang/invoke/MethodHandle" ∧ (cx_y (cx_m 78)).cls ≠ "java/lang/invoke/VarHandle" ∧ (parseMethodDescriptor (cx_y (cx_m 78)).desc).map (fun d => d.parameters.length) = some 2) := by decide +kernel
theorem pd_79 : ((cx_y (cx_m 79)).cls ≠ "java/lang/invoke/MethodHandle" ∧ (cx_y (cx_m 79)).cls ≠ "java/lang/invoke/VarHandle" ∧ (parseMethodDescriptor (cx_y (cx_m 79)).desc).map (fun d => d.parameters.length) = some 2) := by decide +kernel
theorem pd_80 : ((cx_y (cx_m 80)).cls ≠ "java/lang/invoke/MethodHandle" ∧ (cx_y (cx_m 80)).cls ≠ "java/lang/invoke/VarHandle" ∧ (parseMethodDescriptor (cx_y (cx_m 80)).desc).map (fun d => d.parameters.length) = some 3) := by decide +kernel
theorem pd_81 : ((cx_y (cx_m 81)).cls ≠ "java/lang/invoke/MethodHandle" ∧ (cx_y (cx_m 81)).cls ≠ "java/lang/invoke/VarHandle" ∧ (parseMethodDescriptor (cx_y (cx_m 81)).desc).map (fun d => d.parameters.length) = some 3) := by decide +kernel
theorem pd_82 : ((cx_y (cx_m 82)).cls ≠ "java/lang/invoke/MethodHandle" ∧ (cx_y (cx_m 82)).cls ≠ "java/lang/invoke/VarHandle" ∧ (parseMethodDescriptor (cx_y (cx_m 82)).desc).map (fun d => d.parameters.length) = some 0) := by decide +kernel
theorem pd_83 : ((cx_y (cx_m 83)).cls ≠ "java/lang/invoke/MethodHandle" ∧ (cx_y (cx_m 83)).cls ≠ "java/lang/invoke/VarHandle" ∧ (parseMethodDescriptor (cx_y (cx_m 83)).desc).map (fun d => d.parameters.length) = some 1) := by decide +kernel
theorem pd_84 : ((cx_y (cx_m 84)).cls ≠ "java/lang/invoke/MethodHandle" ∧ (cx_y (cx_m 84)).cls ≠ "java/lang/invoke/VarHandle" ∧ (parseMethodDescriptor (cx_y (cx_m 84)).desc).map (fun d => d.parameters.length) = some 1) := by decide +kernel
theorem pd_85 : ((cx_y (cx_m 85)).cls ≠ "java/lang/invoke/MethodHandle" ∧ (cx_y (cx_m 85)).cls ≠ "java/lang/invoke/VarHandle" ∧ (parseMethodDescriptor (cx_y (cx_m 85)).desc).map (fun d => d.parameters.length) = some 1) := by decide +kernel
theorem pd_86 : ((cx_y (cx_m 86)).cls ≠ "java/lang/invoke/MethodHandle" ∧ (cx_y (cx_m 86)).cls ≠ "java/lang/invoke/VarHandle" ∧ (parseMethodDescriptor (cx_y (cx_m 86)).desc).map (fun d => d.parameters.length) = some 1) := by decide +kernel
theorem pd_87 : ((cx_y (cx_m 87)).cls ≠ "java/lang/invoke/MethodHandle" ∧ (cx_y (cx_m 87)).cls ≠ "java/lang/invoke/VarHandle" ∧ (parseMethodDescriptor (cx_y (cx_m 87)).desc).map (fun d => d.parameters.length) = some 1) := by decide +kernel
theorem pd_88 : ((cx_y (cx_m 88)).cls ≠ "java/lang/invoke/MethodHandle" ∧ (cx_y (cx_m 88)).cls ≠ "java/lang/invoke/VarHandle" ∧ (parseMethodDescriptor (cx_y (cx_m 88)).desc).map (fun d => d.parameters.length) = some 2) := by decide +kernel
theorem pd_89 : ((cx_y (cx_m 89)).cls ≠ "java/lang/invoke/MethodHandle" ∧ (cx_y (cx_m 89)).cls ≠ "java/lang/invoke/VarHandle" ∧ (parseMethodDescriptor (cx_y (cx_m 89)).desc).map (fun d => d.parameters.length) = some 2) := by decide +kernel
theorem pd_90 : ((cx_y (cx_m 90)).cls ≠ "java/lang/invoke/MethodHandle" ∧ (cx_y (cx_m 90)).cls ≠ "java/lang/invoke/VarHandle" ∧ (parseMethodDescriptor (cx_y (cx_m 90)).desc).map (fun d => d.parameters.length) = some 0) := by decide +kernel
theorem pd_91 : ((cx_y (cx_m 91)).cls ≠ "java/lang/invoke/MethodHandle" ∧ (cx_y (cx_m 91)).cls ≠ "java/lang/invoke/VarHandle" ∧ (parseMethodDescriptor (cx_y (cx_m 91)).desc).map (fun d => d.parameters.length) = some 0) := by decide +kernel
theorem pd_92 : ((cx_y (cx_m 92)).cls ≠ "java/lang/invoke/MethodHandle" ∧ (cx_y (cx_m 92)).cls ≠ "java/lang/invoke/VarHandle" ∧ (parseMethodDescriptor (cx_y (cx_m 92)).desc).map (fun d => d.parameters.length) = some 0) := by decide +kernel
theorem pd_93 : ((cx_y (cx_m 93)).cls ≠ "java/lang/invoke/MethodHandle" ∧ (cx_y (cx_m 93)).cls ≠ "java/lang/invoke/VarHandle" ∧ (parseMethodDescriptor (cx_y (cx_m 93)).desc).map (fun d => d.parameters.length) = some 0) := by decide +kernel
theorem pd_94 : ((cx_y (cx_m 94)).cls ≠ "java/lang/invoke/MethodHandle" ∧ (cx_y (cx_m 94)).cls ≠ "java/lang/invoke/VarHandle" ∧ (parseMethodDescriptor (cx_y (cx_m 94)).desc).map (fun d => d.parameters.length) = some 1) := by decide +kernel
theorem pd_95 : ((cx_y (cx_m 95)).cls ≠ "java/lang/invoke/MethodHandle" ∧ (cx_y (cx_m 95)).cls ≠ "java/lang/invoke/VarHandle" ∧ (parseMethodDescriptor (cx_y (cx_m 95)).desc).map (fun d => d.parameters.length) = some 1) := by decide +kernel
theorem pd_96 : ((cx_y (cx_m 96)).cls ≠ "java/lang/invoke/MethodHandle" ∧ (cx_y (cx_m 96)).cls ≠ "java/lang/invoke/VarHandle" ∧ (parseMethodDescriptor (cx_y (cx_m 96)).desc).map (fun d => d.parameters.length) = some 1) := by decide +kernel
theorem pd_97 : ((cx_y (cx_m 97)).cls ≠ "java/lang/invoke/MethodHandle" ∧ (cx_y (cx_m 97)).cls ≠ "java/lang/invoke/VarHandle" ∧ (parseMethodDescriptor (cx_y (cx_m 97)).desc).map (fun d => d.parameters.length) = some 2) := by decide +kernel
theorem pd_98 : ((cx_y (cx_m 98)).cls ≠ "java/lang/invoke/MethodHandle" ∧ (cx_y (cx_m 98)).cls ≠ "java/lang/invoke/VarHandle" ∧ (parseMethodDescriptor (cx_y (cx_m 98)).desc).map (fun d => d.parameters.length) = some 1) := by decide +kernel
theorem pd_99 : ((cx_y (cx_m 99)).cls ≠ "java/lang/invoke/MethodHandle" ∧ (cx_y (cx_m 99)).cls ≠ "java/lang/invoke/VarHandle" ∧ (parseMethodDescriptor (cx_y (cx_m 99)).desc).map (fun d => d.parameters.length) = some 3) := by decide +kernel
theorem pd_100 : ((cx_y (cx_m 100)).cls ≠ "java/lang/invoke/MethodHandle" ∧ (cx_y (cx_m 100)).cls ≠ "java/lang/invoke/VarHandle" ∧ (parseMethodDescriptor (cx_y (cx_m 100)).desc).map (fun d => d.parameters.length) = some 0) := by decide +kernel
theorem pd_101 : ((cx_y (cx_m 101)).cls ≠ "java/lang/invoke/MethodHandle" ∧ (cx_y (cx_m 101)).cls ≠ "java/lang/invoke/VarHandle" ∧ (parseMethodDescriptor (cx_y (cx_m 101)).desc).map (fun d => d.parameters.length) = some 1) := by decide +kernel
theorem pd_102 : ((cx_y (cx_m 102)).cls ≠ "java/lang/invoke/MethodHandle" ∧ (cx_y (cx_m 102)).cls ≠ "java/lang/invoke/VarHandle" ∧ (parseMethodDescriptor (cx_y (cx_m 102)).desc).map (fun d => d.parameters.length) = some 0) := by decide +kernel
theorem pd_103 : ((cx_y (cx_m 103)).cls ≠ "java/lang/invoke/MethodHandle" ∧ (cx_y (cx_m 103)).cls ≠ "java/lang/invoke/VarHandle" ∧ (parseMethodDescriptor (cx_y (cx_m 103)).desc).map (fun d => d.parameters.length) = some 3) := by decide +kernel
theorem pd_104 : ((cx_y (cx_m 104)).cls ≠ "java/lang/invoke/MethodHandle" ∧ (cx_y (cx_m 104)).cls ≠ "java/lang/invoke/VarHandle" ∧ (parseMethodDescriptor (cx_y (cx_m 104)).desc).map (fun d => d.parameters.length) = some 0) := by decide +kernel
theorem pd_105 : ((cx_y (cx_m 105)).cls ≠ "java/lang/invoke/MethodHandle" ∧ (cx_y (cx_m 105)).cls ≠ "java/lang/invoke/VarHandle" ∧ (parseMethodDescriptor (cx_y (cx_m 105)).desc).map (fun d => d.parameters.length) = some 1) := by decide +kernel
theorem pd_106 : ((cx_y (cx_m 106)).cls ≠ "java/lang/invoke/MethodHandle" ∧ (cx_y (cx_m 106)).cls ≠ "java/lang/invoke/VarHandle" ∧ (parseMethodDescriptor (cx_y (cx_m 106)).desc).map (fun d => d.parameters.length) = some 1) := by decide +kernel
theorem pd_107 : ((cx_y (cx_m 107)).cls ≠ "java/lang/invoke/MethodHandle" ∧ (cx_y (cx_m 107)).cls ≠ "java/lang/invoke/VarHandle" ∧ (parseMethodDescriptor (cx_y (cx_m 107)).desc).map (fun d => d.parameters.length) = some 1) := by decide +kernel
theorem pd_108 : ((cx_y (cx_m 108)).cls ≠ "java/lang/invoke/MethodHandle" ∧ (cx_y (cx_m 108)).cls ≠ "java/lang/invoke/VarHandle" ∧ (parseMethodDescriptor (cx_y (cx_m 108)).desc).map (fun d => d.parameters.length) = some 1) := by decide +kernel
theorem pd_109 : ((cx_y (cx_m 109)).cls ≠ "java/lang/invoke/MethodHandle" ∧ (cx_y (cx_m 109)).cls ≠ "java/lang/invoke/VarHandle" ∧ (parseMethodDescriptor (cx_y (cx_m 109)).desc).map (fun d => d.parameters.length) = some 1) := by decide +kernel
theorem pd_110 : ((cx_y (cx_m 110)).cls ≠ "java/lang/invoke/MethodHandle" ∧ (cx_y (cx_m 110)).cls ≠ "java/lang/invoke/VarHandle" ∧ (parseMethodDescriptor (cx_y (cx_m 110)).desc).map (fun d => d.parameters.length) = some 1) := by decide +kernel
theorem pd_111 : ((cx_y (cx_m 111)).cls ≠ "java/lang/invoke/MethodHandle" ∧ (cx_y (cx_m 111)).cls ≠ "java/lang/invoke/VarHandle" ∧ (parseMethodDescriptor (cx_y (cx_m 111)).desc).map (fun d => d.parameters.length) = some 1) := by decide +kernel
theorem pd_112 : ((cx_y (cx_m 112)).cls ≠ "java/lang/invoke/MethodHandle" ∧ (cx_y (cx_m 112)).cls ≠ "java/lang/invoke/VarHandle" ∧ (parseMethodDescriptor (cx_y (cx_m 112)).desc).map (fun d => d.parameters.length) = some 0) := by decide +kernel
theorem pd_113 : ((cx_y (cx_m 113)).cls ≠ "java/lang/invoke/MethodHandle" ∧ (cx_y (cx_m 113)).cls ≠ "java/lang/invoke/VarHandle" ∧ (parseMethodDescriptor (cx_y (cx_m 113)).desc).map (fun d => d.parameters.length) = some 1) := by decide +kernel
theorem pd_114 : ((cx_y (cx_m 114)).cls ≠ "java/lang/invoke/MethodHandle" ∧ (cx_y (cx_m 114)).cls ≠ "java/lang/invoke/VarHandle" ∧ (parseMethodDescriptor (cx_y (cx_m 114)).desc).map (fun d => d.parameters.length) = some 2) := by decide +kernel
theorem pd_115 : ((cx_y (cx_m 115)).cls ≠ "java/lang/invoke/MethodHandle" ∧ (cx_y (cx_m 115)).cls ≠ "java/lang/invoke/VarHandle" ∧ (parseMethodDescriptor (cx_y (cx_m 115)).desc).map (fun d => d.parameters.length) = some 1) := by decide +kernel
theorem pd_116 : ((cx_y (cx_m 116)).cls ≠ "java/lang/invoke/MethodHandle" ∧ (cx_y (cx_m 116)).cls ≠ "java/lang/invoke/VarHandle" ∧ (parseMethodDescriptor (cx_y (cx_m 116)).desc).map (fun d => d.parameters.length) = some 2) := by decide +kernel
theorem pd_117 : ((cx_y (cx_m 117)).cls ≠ "java/lang/invoke/MethodHandle" ∧ (cx_y (cx_m 117)).cls ≠ "java/lang/invoke/VarHandle" ∧ (parseMethodDescriptor (cx_y (cx_m 117)).desc).map (fun d => d.parameters.length) = some 2) := by decide +kernel
theorem pd_118 : ((cx_y (cx_m 118)).cls ≠ "java/lang/invoke/MethodHandle" ∧ (cx_y (cx_m 118)).cls ≠ "java/lang/invoke/VarHandle" ∧ (parseMethodDescriptor (cx_y (cx_m 118)).desc).map (fun d => d.parameters.length) = some 0) := by decide +kernel
theorem pd_119 : ((cx_y (cx_m 119)).cls ≠ "java/lang/invoke/MethodHandle" ∧ (cx_y (cx_m 119)).cls ≠ "java/lang/invoke/VarHandle" ∧ (parseMethodDescriptor (cx_y (cx_m 119)).desc).map (fun d => d.parameters.length) = some 0) := by decide +kernel
theorem pd_120 : ((cx_y (cx_m 120)).cls ≠ "java/lang/invoke/MethodHandle" ∧ (cx_y (cx_m 120)).cls ≠ "java/lang/invoke/VarHandle" ∧ (parseMethodDescriptor (cx_y (cx_m 120)).desc).map (fun d => d.parameters.length) = some 1) := by decide +kernel
theorem pd_121 : ((cx_y (cx_m 121)).cls ≠ "java/lang/invoke/MethodHandle" ∧ (cx_y (cx_m 121)).cls ≠ "java/lang/invoke/VarHandle" ∧ (parseMethodDescriptor (cx_y (cx_m 121)).desc).map (fun d => d.parameters.length) = some 0) := by decide +kernel
theorem pd_122 : ((cx_y (cx_m 122)).cls ≠ "java/lang/invoke/MethodHandle" ∧ (cx_y (cx_m 122)).cls ≠ "java/lang/invoke/VarHandle" ∧ (parseMethodDescriptor (cx_y (cx_m 122)).desc).map (fun d => d.parameters.length) = some 0) := by decide +kernel
theorem pd_123 : ((cx_y (cx_m 123)).cls ≠ "java/lang/invoke/MethodHandle" ∧ (cx_y (cx_m 123)).cls ≠ "java/lang/invoke/VarHandle" ∧ (parseMethodDescriptor (cx_y (cx_m 123)).desc).map (fun d => d.parameters.length) = some 0) := by decide +kernel
theorem pd_124 : ((cx_y (cx_m 124)).cls ≠ "java/lang/invoke/MethodHandle" ∧ (cx_y (cx_m 124)).cls ≠ "java/lang/invoke/VarHandle" ∧ (parseMethodDescriptor (cx_y (cx_m 124)).desc).map (fun d => d.parameters.length) = some 0) := by decide +kernel
theorem pd_125 : ((cx_y (cx_m 125)).cls ≠ "java/lang/invoke/MethodHandle" ∧ (cx_y (cx_m 125)).cls ≠ "java/lang/invoke/VarHandle" ∧ (parseMethodDescriptor (cx_y (cx_m 125)).desc).map (fun d => d.parameters.length) = some 1) := by decide +kernel
theorem pd_126 : ((cx_y (cx_m 126)).cls ≠ "java/lang/invoke/MethodHandle" ∧ (cx_y (cx_m 126)).cls ≠ "java/lang/invoke/VarHandle" ∧ (parseMethodDescriptor (cx_y (cx_m 126)).desc).map (fun d => d.parameters.length) = some 1) := by decide +kernel
theorem pd_127 : ((cx_y (cx_m 127)).cls ≠ "java/lang/invoke/MethodHandle" ∧ (cx_y (cx_m 127)).cls ≠ "java/lang/invoke/VarHandle" ∧ (parseMethodDescriptor (cx_y (cx_m 127)).desc).map (fun d => d.parameters.length) = some 0) := by decide +kernel
theorem pd_128 : ((cx_y (cx_m 128)).cls ≠ "java/lang/invoke/MethodHandle" ∧ (cx_y (cx_m 128)).cls ≠ "java/lang/invoke/VarHandle" ∧ (parseMethodDescriptor (cx_y (cx_m 128)).desc).map (fun d => d.parameters.length) = some 0) := by decide +kernel
theorem pd_129 : ((cx_y (cx_m 129)).cls ≠ "java/lang/invoke/MethodHandle" ∧ (cx_y (cx_m 129)).cls ≠ "java/lang/invoke/VarHandle" ∧ (parseMethodDescriptor (cx_y (cx_m 129)).desc).map (fun d => d.parameters.length) = some 1) := by decide +kernel
theorem pd_130 : ((cx_y (cx_m 130)).cls ≠ "java/lang/invoke/MethodHandle" ∧ (cx_y (cx_m 130)).cls ≠ "java/lang/invoke/VarHandle" ∧ (parseMethodDescriptor (cx_y (cx_m 130)).desc).map (fun d => d.parameters.length) = some 1) := by decide +kernel
theorem pd_131 : ((cx_y (cx_m 131)).cls ≠ "java/lang/invoke/MethodHandle" ∧ (cx_y (cx_m 131)).cls ≠ "java/lang/invoke/VarHandle" ∧ (parseMethodDescriptor (cx_y (cx_m 131)).desc).map (fun d => d.parameters.length) = some 4) := by decide +kernel
theorem pd_132 : ((cx_y (cx_m 132)).cls ≠ "java/lang/invoke/MethodHandle" ∧ (cx_y (cx_m 132)).cls ≠ "java/lang/invoke/VarHandle" ∧ (parseMethodDescriptor (cx_y (cx_m 132)).desc).map (fun d => d.parameters.length) = some 0) := by decide +kernel
theorem pd_133 : ((cx_y (cx_m 133)).cls ≠ "java/lang/invoke/MethodHandle" ∧ (cx_y (cx_m 133)).cls ≠ "java/lang/invoke/VarHandle" ∧ (parseMethodDescriptor (cx_y (cx_m 133)).desc).map (fun d => d.parameters.length) = some 0) := by decide +kernel
theorem pd_134 : ((cx_y (cx_m 134)).cls ≠ "java/lang/invoke/MethodHandle" ∧ (cx_y (cx_m 134)).cls ≠ "java/lang/invoke/VarHandle" ∧ (parseMethodDescriptor (cx_y (cx_m 134)).desc).map (fun d => d.parameters.length) = some 1) := by decide +kernel
theorem pd_135 : ((cx_y (cx_m 135)).cls ≠ "java/lang/invoke/MethodHandle" ∧ (cx_y (cx_m 135)).cls ≠ "java/lang/invoke/VarHandle" ∧ (parseMethodDescriptor (cx_y (cx_m 135)).desc).map (fun d => d.parameters.length) = some 1) := by decide +kernel
theorem pd_136 : ((cx_y (cx_m 136)).cls ≠ "java/lang/invoke/MethodHandle" ∧ (cx_y (cx_m 136)).cls ≠ "java/lang/invoke/VarHandle" ∧ (parseMethodDescriptor (cx_y (cx_m 136)).desc).map (fun d => d.parameters.length) = some 1) := by decide +kernel
theorem pd_137 : ((cx_y (cx_m 137)).cls ≠ "java/lang/invoke/MethodHandle" ∧ (cx_y (cx_m 137)).cls ≠ "java/lang/invoke/VarHandle" ∧ (parseMethodDescriptor (cx_y (cx_m 137)).desc).map (fun d => d.parameters.length) = some 1) := by decide +kernel
theorem pd_138 : ((cx_y (cx_m 138)).cls ≠ "java/lang/invoke/MethodHandle" ∧ (cx_y (cx_m 138)).cls ≠ "java/lang/invoke/VarHandle" ∧ (parseMethodDescriptor (cx_y (cx_m 138)).desc).map (fun d => d.parameters.length) = some 1) := by decide +kernel
theorem pd_139 : ((cx_y (cx_m 139)).cls ≠ "java/lang/invoke/MethodHandle" ∧ (cx_y (cx_m 139)).cls ≠ "java/lang/invoke/VarHandle" ∧ (parseMethodDescriptor (cx_y (cx_m 139)).desc).map (fun d => d.parameters.length) = some 0) := by decide +kernel
theorem pd_140 : ((cx_y (cx_m 140)).cls ≠ "java/lang/invoke/MethodHandle" ∧ (cx_y (cx_m 140)).cls ≠ "java/lang/invoke/VarHandle" ∧ (parseMethodDescriptor (cx_y (cx_m 140)).desc).map (fun d => d.parameters.length) = some 0) := by decide +kernel
theorem pd_141 : ((cx_y (cx_m 141)).cls ≠ "java/lang/invoke/MethodHandle" ∧ (cx_y (cx_m 141)).cls ≠ "java/lang/invoke/VarHandle" ∧ (parseMethodDescriptor (cx_y (cx_m 141)).desc).map (fun d => d.parameters.length) = some 4) := by decide +kernel
theorem pd_142 : ((cx_y (cx_m 142)).cls ≠ "java/lang/invoke/MethodHandle" ∧ (cx_y (cx_m 142)).cls ≠ "java/lang/invoke/VarHandle" ∧ (parseMethodDescriptor (cx_y (cx_m 142)).desc).map (fun d => d.parameters.length) = some 3) := by decide +kernel
theorem pd_143 : ((cx_y (cx_m 143)).cls ≠ "java/lang/invoke/MethodHandle" ∧ (cx_y (cx_m 143)).cls ≠ "java/lang/invoke/VarHandle" ∧ (parseMethodDescriptor (cx_y (cx_m 143)).desc).map (fun d => d.parameters.length) = some 1) := by decide +kernel
theorem pd_144 : ((cx_y (cx_m 144)).cls ≠ "java/lang/invoke/MethodHandle" ∧ (cx_y (cx_m 144)).cls ≠ "java/lang/invoke/VarHandle" ∧ (parseMethodDescriptor (cx_y (cx_m 144)).desc).map (fun d => d.parameters.length) = some 2) := by decide +kernel
theorem pd_145 : ((cx_y (cx_m 145)).cls ≠ "java/lang/invoke/MethodHandle" ∧ (cx_y (cx_m 145)).cls ≠ "java/lang/invoke/VarHandle" ∧ (parseMethodDescriptor (cx_y (cx_m 145)).desc).map (fun d => d.parameters.length) = some 5) := by decide +kernel
theorem pd_146 : ((cx_y (cx_m 146)).cls ≠ "java/lang/invoke/MethodHandle" ∧ (cx_y (cx_m 146)).cls ≠ "java/lang/invoke/VarHandle" ∧ (parseMethodDescriptor (cx_y (cx_m 146)).desc).map (fun d => d.parameters.length) = some 2) := by decide +kernel
theorem pd_147 : ((cx_y (cx_m 147)).cls ≠ "java/lang/invoke/MethodHandle" ∧ (cx_y (cx_m 147)).cls ≠ "java/lang/invoke/VarHandle" ∧ (parseMethodDescriptor (cx_y (cx_m 147)).desc).map (fun d => d.parameters.length) = some 2) := by decide +kernel
theorem pd_148 : ((cx_y (cx_m 148)).cls ≠ "java/lang/invoke/MethodHandle" ∧ (cx_y (cx_m 148)).cls ≠ "java/lang/invoke/VarHandle" ∧ (parseMethodDescriptor (cx_y (cx_m 148)).desc).map (fun d => d.parameters.length) = some 3) := by decide +kernel
theorem pd_149 : ((cx_y (cx_m 149)).cls ≠ "java/lang/invoke/MethodHandle" ∧ (cx_y (cx_m 149)).cls ≠ "java/lang/invoke/VarHandle" ∧ (parseMethodDescriptor (cx_y (cx_m 149)).desc).map (fun d => d.parameters.length) = some 4) := by decide +kernel
theorem pd_150 : ((cx_y (cx_m 150)).cls ≠ "java/lang/invoke/MethodHandle" ∧ (cx_y (cx_m 150)).cls ≠ "java/lang/invoke/VarHandle" ∧ (parseMethodDescriptor (cx_y (cx_m 150)).desc).map (fun d => d.parameters.length) = some 1) := by decide +kernel
theorem pd_151 : ((cx_y (cx_m 151)).cls ≠ "java/lang/invoke/MethodHandle" ∧ (cx_y (cx_m 151)).cls ≠ "java/lang/invoke/VarHandle" ∧ (parseMethodDescriptor (cx_y (cx_m 151)).desc).map (fun d => d.parameters.length) = some 0) := by decide +kernel
theorem pd_152 : ((cx_y (cx_m 152)).cls ≠ "java/lang/invoke/MethodHandle" ∧ (cx_y (cx_m 152)).cls ≠ "java/lang/invoke/VarHandle" ∧ (parseMethodDescriptor (cx_y (cx_m 152)).desc).map (fun d => d.parameters.length) = some 3) := by decide +kernel
theorem pd_153 : ((cx_y (cx_m 153)).cls ≠ "java/lang/invoke/MethodHandle" ∧ (cx_y (cx_m 153)).cls ≠ "java/lang/invoke/VarHandle" ∧ (parseMethodDescriptor (cx_y (cx_m 153)).desc).map (fun d => d.parameters.length) = some 0) := by decide +kernel
theorem pd_154 : ((cx_y (cx_m 154)).cls ≠ "java/lang/invoke/MethodHandle" ∧ (cx_y (cx_m 154)).cls ≠ "java/lang/invoke/VarHandle" ∧ (parseMethodDescriptor (cx_y (cx_m 154)).desc).map (fun d => d.parameters.length) = some 1) := by decide +kernel
theorem pd_155 : ((cx_y (cx_m 155)).cls ≠ "java/lang/invoke/MethodHandle" ∧ (cx_y (cx_m 155)).cls ≠ "java/lang/invoke/VarHandle" ∧ (parseMethodDescriptor (cx_y (cx_m 155)).desc).map (fun d => d.parameters.length) = some 4) := by decide +kernel
theorem pd_156 : ((cx_y (cx_m 156)).cls ≠ "java/lang/invoke/MethodHandle" ∧ (cx_y (cx_m 156)).cls ≠ "java/lang/invoke/VarHandle" ∧ (parseMethodDescriptor (cx_y (cx_m 156)).desc).map (fun d => d.parameters.length) = some 2) := by decide +kernel
theorem pd_157 : ((cx_y (cx_m 157)).cls ≠ "java/lang/invoke/MethodHandle" ∧ (cx_y (cx_m 157)).cls ≠ "java/lang/invoke/VarHandle" ∧ (parseMethodDescriptor (cx_y (cx_m 157)).desc).map (fun d => d.parameters.length) = some 1) := by decide +kernel
theorem pd_158 : ((cx_y (cx_m 158)).cls ≠ "java/lang/invoke/MethodHandle" ∧ (cx_y (cx_m 158)).cls ≠ "java/lang/invoke/VarHandle" ∧ (parseMethodDescriptor (cx_y (cx_m 158)).desc).map (fun d => d.parameters.length) = some 1) := by decide +kernel
theorem pd_159 : ((cx_y (cx_m 159)).cls ≠ "java/lang/invoke/MethodHandle" ∧ (cx_y (cx_m 159)).cls ≠ "java/lang/invoke/VarHandle" ∧ (parseMethodDescriptor (cx_y (cx_m 159)).desc).map (fun d => d.parameters.length) = some 3) := by decide +kernel
theorem pd_160 : ((cx_y (cx_m 160)).cls ≠ "java/lang/invoke/MethodHandle" ∧ (cx_y (cx_m 160)).cls ≠ "java/lang/invoke/VarHandle" ∧ (parseMethodDescriptor (cx_y (cx_m 160)).desc).map (fun d => d.parameters.length) = some 0) := by decide +kernel
theorem pd_161 : ((cx_y (cx_m 161)).cls ≠ "java/lang/invoke/MethodHandle" ∧ (cx_y (cx_m 161)).cls ≠ "java/lang/invoke/VarHandle" ∧ (parseMethodDescriptor (cx_y (cx_m 161)).desc).map (fun d => d.parameters.length) = some 1) := by decide +kernel
theorem pd_162 : ((cx_y (cx_m 162)).cls ≠ "java/lang/invoke/MethodHandle" ∧ (cx_y (cx_m 162)).cls ≠ "java/lang/invoke/VarHandle" ∧ (parseMethodDescriptor (cx_y (cx_m 162)).desc).map (fun d => d.parameters.length) = some 2) := by decide +kernel
theorem pd_163 : ((cx_y (cx_m 163)).cls ≠ "java/lang/invoke/MethodHandle" ∧ (cx_y (cx_m 163)).cls ≠ "java/lang/invoke/VarHandle" ∧ (parseMethodDescriptor (cx_y (cx_m 163)).desc).map (fun d => d.parameters.length) = some 1) := by decide +kernel
theorem pd_164 : ((cx_y (cx_m 164)).cls ≠ "java/lang/invoke/MethodHandle" ∧ (cx_y (cx_m 164)).cls ≠ "java/lang/invoke/VarHandle" ∧ (parseMethodDescriptor (cx_y (cx_m 164)).desc).map (fun d => d.parameters.length) = some 1) := by decide +kernel
theorem pd_165 : ((cx_y (cx_m 165)).cls ≠ "java/lang/invoke/MethodHandle" ∧ (cx_y (cx_m 165)).cls ≠ "java/lang/invoke/VarHandle" ∧ (parseMethodDescriptor (cx_y (cx_m 165)).desc).map (fun d => d.parameters.length) = some 0) := by decide +kernel
theorem pd_166 : ((cx_y (cx_m 166)).cls ≠ "java/lang/invoke/MethodHandle" ∧ (cx_y (cx_m 166)).cls ≠ "java/lang/invoke/VarHandle" ∧ (parseMethodDescriptor (cx_y (cx_m 166)).desc).map (fun d => d.parameters.length) = some 1) := by decide +kernel
theorem pd_167 : ((cx_y (cx_m 167)).cls ≠ "java/lang/invoke/MethodHandle" ∧ (cx_y (cx_m 167)).cls ≠ "java/lang/invoke/VarHandle" ∧ (parseMethodDescriptor (cx_y (cx_m 167)).desc).map (fun d => d.parameters.length) = some 3) := by decide +kernel
theorem pd_168 : ((cx_y (cx_m 168)).cls ≠ "java/lang/invoke/MethodHandle" ∧ (cx_y (cx_m 168)).cls ≠ "java/lang/invoke/VarHandle" ∧ (parseMethodDescriptor (cx_y (cx_m 168)).desc).map (fun d => d.parameters.length) = some 1) := by decide +kernel
theorem pd_169 : ((cx_y (cx_m 169)).cls ≠ "java/lang/invoke/MethodHandle" ∧ (cx_y (cx_m 169)).cls ≠ "java/lang/invoke/VarHandle" ∧ (parseMethodDescriptor (cx_y (cx_m 169)).desc).map (fun d => d.parameters.length) = some 2) := by decide +kernel
theorem pd_170 : ((cx_y (cx_m 170)).cls ≠ "java/lang/invoke/MethodHandle" ∧ (cx_y (cx_m 170)).cls ≠ "java/lang/invoke/VarHandle" ∧ (parseMethodDescriptor (cx_y (cx_m 170)).desc).map (fun d => d.parameters.length) = some 0) := by decide +kernel
theorem pd_171 : ((cx_y (cx_m 171)).cls ≠ "java/lang/invoke/MethodHandle" ∧ (cx_y (cx_m 171)).cls ≠ "java/lang/invoke/VarHandle" ∧ (parseMethodDescriptor (cx_y (cx_m 171)).desc).map (fun d => d.parameters.length) = some 1) := by decide +kernel
theorem pd_172 : ((cx_y (cx_m 172)).cls ≠ "java/lang/invoke/MethodHandle" ∧ (cx_y (cx_m 172)).cls ≠ "java/lang/invoke/VarHandle" ∧ (parseMethodDescriptor (cx_y (cx_m 172)).desc).map (fun d => d.parameters.length) = some 3) := by decide +kernel
theorem pd_173 : ((cx_y (cx_m 173)).cls ≠ "java/lang/invoke/MethodHandle" ∧ (cx_y (cx_m 173)).cls ≠ "java/lang/invoke/VarHandle" ∧ (parseMethodDescriptor (cx_y (cx_m 173)).desc).map (fun d => d.parameters.length) = some 0) := by decide +kernel
theorem pd_174 : ((cx_y (cx_m 174)).cls ≠ "java/lang/invoke/MethodHandle" ∧ (cx_y (cx_m 174)).cls ≠ "java/lang/invoke/VarHandle" ∧ (parseMethodDescriptor (cx_y (cx_m 174)).desc).map (fun d => d.parameters.length) = some 1) := by decide +kernel
theorem pd_175 : ((cx_y (cx_m 175)).cls ≠ "java/lang/invoke/MethodHandle" ∧ (cx_y (cx_m 175)).cls ≠ "java/lang/invoke/VarHandle" ∧ (parseMethodDescriptor (cx_y (cx_m 175)).desc).map (fun d => d.parameters.length) = some 1) := by decide +kernel
theorem pd_176 : ((cx_y (cx_m 176)).cls ≠ "java/lang/invoke/MethodHandle" ∧ (cx_y (cx_m 176)).cls ≠ "java/lang/invoke/VarHandle" ∧ (parseMethodDescriptor (cx_y (cx_m 176)).desc).map (fun d => d.parameters.length) = some 0) := by decide +kernel
theorem pd_177 : ((cx_y (cx_m 177)).cls ≠ "java/lang/invoke/MethodHandle" ∧ (cx_y (cx_m 177)).cls ≠ "java/lang/invoke/VarHandle" ∧ (parseMethodDescriptor (cx_y (cx_m 177)).desc).map (fun d => d.parameters.length) = some 2) := by decide +kernel
theorem pd_178 : ((cx_y (cx_m 178)).cls ≠ "java/lang/invoke/MethodHandle" ∧ (cx_y (cx_m 178)).cls ≠ "java/lang/invoke/VarHandle" ∧ (parseMethodDescriptor (cx_y (cx_m 178)).desc).map (fun d => d.parameters.length) = some 2) := by decide +kernel
theorem pd_179 : ((cx_y (cx_m 179)).cls ≠ "java/lang/invoke/MethodHandle" ∧ (cx_y (cx_m 179)).cls ≠ "java/lang/invoke/VarHandle" ∧ (parseMethodDescriptor (cx_y (cx_m 179)).desc).map (fun d => d.parameters.length) = some 1) := by decide +kernel
theorem pd_180 : ((cx_y (cx_m 180)).cls ≠ "java/lang/invoke/MethodHandle" ∧ (cx_y (cx_m 180)).cls ≠ "java/lang/invoke/VarHandle" ∧ (parseMethodDescriptor (cx_y (cx_m 180)).desc).map (fun d => d.parameters.length) = some 2) := by decide +kernel
theorem pd_181 : ((cx_y (cx_m 181)).cls ≠ "java/lang/invoke/MethodHandle" ∧ (cx_y (cx_m 181)).cls ≠ "java/lang/invoke/VarHandle" ∧ (parseMethodDescriptor (cx_y (cx_m 181)).desc).map (fun d => d.parameters.length) = some 1) := by decide +kernel
theorem pd_182 : ((cx_y (cx_m 182)).cls ≠ "java/lang/invoke/MethodHandle" ∧ (cx_y (cx_m 182)).cls ≠ "java/lang/invoke/VarHandle" ∧ (parseMethodDescriptor (cx_y (cx_m 182)).desc).map (fun d => d.parameters.length) = some 0) := by decide +kernel
theorem pd_183 : ((cx_y (cx_m 183)).cls ≠ "java/lang/invoke/MethodHandle" ∧ (cx_y (cx_m 183)).cls ≠ "java/lang/invoke/VarHandle" ∧ (parseMethodDescriptor (cx_y (cx_m 183)).desc).map (fun d => d.parameters.length) = some 0) := by decide +kernel
theorem pd_184 : ((cx_y (cx_m 184)).cls ≠ "java/lang/invoke/MethodHandle" ∧ (cx_y (cx_m 184)).cls ≠ "java/lang/invoke/VarHandle" ∧ (parseMethodDescriptor (cx_y (cx_m 184)).desc).map (fun d => d.parameters.length) = some 0) := by decide +kernel
theorem pd_185 : ((cx_y (cx_m 185)).cls ≠ "java/lang/invoke/MethodHandle" ∧ (cx_y (cx_m 185)).cls ≠ "java/lang/invoke/VarHandle" ∧ (parseMethodDescriptor (cx_y (cx_m 185)).desc).map (fun d => d.parameters.length) = some 1) := by decide +kernel
theorem pd_186 : ((cx_y (cx_m 186)).cls ≠ "java/lang/invoke/MethodHandle" ∧ (cx_y (cx_m 186)).cls ≠ "java/lang/invoke/VarHandle" ∧ (parseMethodDescriptor (cx_y (cx_m 186)).desc).map (fun d => d.parameters.length) = some 0) := by decide +kernel
theorem pd_187 : ((cx_y (cx_m 187)).cls ≠ "java/lang/invoke/MethodHandle" ∧ (cx_y (cx_m 187)).cls ≠ "java/lang/invoke/VarHandle" ∧ (parseMethodDescriptor (cx_y (cx_m 187)).desc).map (fun d => d.parameters.length) = some 0) := by decide +kernel
theorem pd_188 : ((cx_y (cx_m 188)).cls ≠ "java/lang/invoke/MethodHandle" ∧ (cx_y (cx_m 188)).cls ≠ "java/lang/invoke/VarHandle" ∧ (parseMethodDescriptor (cx_y (cx_m 188)).desc).map (fun d => d.parameters.length) = some 0) := by decide +kernel
theorem pd_189 : ((cx_y (cx_m 189)).cls ≠ "java/lang/invoke/MethodHandle" ∧ (cx_y (cx_m 189)).cls ≠ "java/lang/invoke/VarHandle" ∧ (parseMethodDescriptor (cx_y (cx_m 189)).desc).map (fun d => d.parameters.length) = some 1) := by decide +kernel
theorem pd_190 : ((cx_y (cx_m 190)).cls ≠ "java/lang/invoke/MethodHandle" ∧ (cx_y (cx_m 190)).cls ≠ "java/lang/invoke/VarHandle" ∧ (parseMethodDescriptor (cx_y (cx_m 190)).desc).map (fun d => d.parameters.length) = some 1) := by decide +kernel
theorem pd_191 : ((cx_y (cx_m 191)).cls ≠ "java/lang/invoke/MethodHandle" ∧ (cx_y (cx_m 191)).cls ≠ "java/lang/invoke/VarHandle" ∧ (parseMethodDescriptor (cx_y (cx_m 191)).desc).map (fun d => d.parameters.length) = some 0) := by decide +kernel
theorem pd_192 : ((cx_y (cx_m 192)).cls ≠ "java/lang/invoke/MethodHandle" ∧ (cx_y (cx_m 192)).cls ≠ "java/lang/invoke/VarHandle" ∧ (parseMethodDescriptor (cx_y (cx_m 192)).desc).map (fun d => d.parameters.length) = some 0) := by decide +kernel
theorem pd_193 : ((cx_y (cx_m 193)).cls ≠ "java/lang/invoke/MethodHandle" ∧ (cx_y (cx_m 193)).cls ≠ "java/lang/invoke/VarHandle" ∧ (parseMethodDescriptor (cx_y (cx_m 193)).desc).map (fun d => d.parameters.length) = some 1) := by decide +kernel
theorem pd_194 : ((cx_y (cx_m 194)).cls ≠ "java/lang/invoke/MethodHandle" ∧ (cx_y (cx_m 194)).cls ≠ "java/lang/invoke/VarHandle" ∧ (parseMethodDescriptor (cx_y (cx_m 194)).desc).map (fun d => d.parameters.length) = some 2) := by decide +kernel
theorem pd_195 : ((cx_y (cx_m 195)).cls ≠ "java/lang/invoke/MethodHandle" ∧ (cx_y (cx_m 195)).cls ≠ "java/lang/invoke/VarHandle" ∧ (parseMethodDescriptor (cx_y (cx_m 195)).desc).map (fun d => d.parameters.length) = some 2) := by decide +kernel
theorem pd_196 : ((cx_y (cx_m 196)).cls ≠ "java/lang/invoke/MethodHandle" ∧ (cx_y (cx_m 196)).cls ≠ "java/lang/invoke/VarHandle" ∧ (parseMethodDescriptor (cx_y (cx_m 196)).desc).map (fun d => d.parameters.length) = some 1) := by decide +kernel
theorem pd_197 : ((cx_y (cx_m 197)).cls ≠ "java/lang/invoke/MethodHandle" ∧ (cx_y (cx_m 197)).cls ≠ "java/lang/invoke/VarHandle" ∧ (parseMethodDescriptor (cx_y (cx_m 197)).desc).map (fun d => d.parameters.length) = some 1) := by decide +kernel
theorem pd_198 : ((cx_y (cx_m 198)).cls ≠ "java/lang/invoke/MethodHandle" ∧ (cx_y (cx_m 198)).cls ≠ "java/lang/invoke/VarHandle" ∧ (parseMethodDescriptor (cx_y (cx_m 198)).desc).map (fun d => d.parameters.length) = some 1) := by decide +kernel
theorem pd_199 : ((cx_y (cx_m 199)).cls ≠ "java/lang/invoke/MethodHandle" ∧ (cx_y (cx_m 199)).cls ≠ "java/lang/invoke/VarHandle" ∧ (parseMethodDescriptor (cx_y (cx_m 199)).desc).map (fun d => d.parameters.length) = some 1) := by decide +kernel
theorem pd_200 : ((cx_y (cx_m 200)).cls ≠ "java/lang/invoke/MethodHandle" ∧ (cx_y (cx_m 200)).cls ≠ "java/lang/invoke/VarHandle" ∧ (parseMethodDescriptor (cx_y (cx_m 200)).desc).map (fun d => d.parameters.length) = some 1) := by decide +kernel
theorem pd_201 : ((cx_y (cx_m 201)).cls ≠ "java/lang/invoke/MethodHandle" ∧ (cx_y (cx_m 201)).cls ≠ "java/lang/invoke/VarHandle" ∧ (parseMethodDescriptor (cx_y (cx_m 201)).desc).map (fun d => d.parameters.length) = some 0) := by decide +kernel
theorem pd_203 : ((cx_y (cx_m 203)).cls ≠ "java/lang/invoke/MethodHandle" ∧ (cx_y (cx_m 203)).cls ≠ "java/lang/invoke/VarHandle" ∧ (parseMethodDescriptor (cx_y (cx_m 203)).desc).map (fun d => d.parameters.length) = some 2) := by decide +kernel
def cx_VOK (q : Nat × Nat × Nat × Nat × Nat) : Prop := ∃ D0 : cx_D, cx_cd[q.2.2.2.2]? = some D0 ∧ D0.1 = (cx_y (cx_m q.2.2.1)).cls ∧ Cond.methodLink (cx_cn q.1) q.2.1 (cx_y (cx_m q.2.2.1)) ∈ cx_tb ∧ Cond.instanceMethod (cx_y (cx_m q.2.2.1)) ∈ cx_tb ∧ Cond.selects (cx_y (cx_m q.2.2.1)).cls (cx_y (cx_m q.2.2.1)) (cx_y (cx_m q.2.2.1)) ∈ cx_tb ∧ Cond.initialized (cx_y (cx_m q.2.2.1)).cls ∈ cx_tb ∧ ((cx_y (cx_m q.2.2.1)).cls ≠ "java/lang/invoke/MethodHandle" ∧ (cx_y (cx_m q.2.2.1)).cls ≠ "java/lang/invoke/VarHandle" ∧ (parseMethodDescriptor (cx_y (cx_m q.2.2.1)).desc).map (fun d => d.parameters.length) = some q.2.2.2.1)
theorem cx_vl_ok_0 : cx_VOK (0, 72, 49, 0, 2) := ⟨D_Ci, rfl, rfl, cw_157, cw_158, cw_159, cw_5, pd_49⟩
theorem cx_vl_ok_1 : cx_VOK (0, 76, 20, 1, 0) := ⟨D_C, rfl, rfl, cw_160, cw_161, cw_162, cw_1, pd_20⟩
theorem cx_vl_ok_2 : cx_VOK (0, 80, 50, 1, 2) := ⟨D_Ci, rfl, rfl, cw_163, cw_164, cw_165, cw_5, pd_50⟩
theorem cx_vl_ok_3 : cx_VOK (0, 83, 51, 3, 2) := ⟨D_Ci, rfl, rfl, cw_166, cw_167, cw_168, cw_5, pd_51⟩
theorem cx_vl_ok_4 : cx_VOK (0, 91, 52, 4, 2) := ⟨D_Ci, rfl, rfl, cw_169, cw_170, cw_171, cw_5, pd_52⟩
theorem cx_vl_ok_5 : cx_VOK (0, 95, 53, 2, 2) := ⟨D_Ci, rfl, rfl, cw_172, cw_173, cw_174, cw_5, pd_53⟩
theorem cx_vl_ok_6 : cx_VOK (0, 99, 54, 1, 2) := ⟨D_Ci, rfl, rfl, cw_175, cw_176, cw_177, cw_5, pd_54⟩
theorem cx_vl_ok_7 : cx_VOK (0, 102, 74, 3, 3) := ⟨D_Li, rfl, rfl, cw_178, cw_179, cw_180, cw_7, pd_74⟩
theorem cx_vl_ok_8 : cx_VOK (0, 105, 24, 0, 1) := ⟨D_Gr, rfl, rfl, cw_181, cw_182, cw_183, cw_3, pd_24⟩
theorem cx_vl_ok_9 : cx_VOK (0, 108, 41, 1, 2) := ⟨D_Ci, rfl, rfl, cw_184, cw_185, cw_186, cw_5, pd_41⟩
theorem cx_vl_ok_10 : cx_VOK (0, 112, 42, 1, 2) := ⟨D_Ci, rfl, rfl, cw_187, cw_188, cw_189, cw_5, pd_42⟩
theorem cx_vl_ok_11 : cx_VOK (0, 115, 25, 1, 1) := ⟨D_Gr, rfl, rfl, cw_190, cw_191, cw_192, cw_3, pd_25⟩
theorem cx_vl_ok_12 : cx_VOK (0, 118, 31, 1, 1) := ⟨D_Gr, rfl, rfl, cw_193, cw_194, cw_195, cw_3, pd_31⟩
theorem cx_vl_ok_13 : cx_VOK (0, 121, 32, 1, 1) := ⟨D_Gr, rfl, rfl, cw_196, cw_197, cw_198, cw_3, pd_32⟩
theorem cx_vl_ok_14 : cx_VOK (0, 124, 55, 0, 2) := ⟨D_Ci, rfl, rfl, cw_199, cw_200, cw_201, cw_5, pd_55⟩
theorem cx_vl_ok_15 : cx_VOK (0, 128, 56, 0, 2) := ⟨D_Ci, rfl, rfl, cw_202, cw_203, cw_204, cw_5, pd_56⟩
theorem cx_vl_ok_16 : cx_VOK (0, 131, 73, 0, 3) := ⟨D_Li, rfl, rfl, cw_205, cw_206, cw_207, cw_7, pd_73⟩
theorem cx_vl_ok_17 : cx_VOK (0, 134, 91, 0, 4) := ⟨D_Co, rfl, rfl, cw_208, cw_209, cw_210, cw_9, pd_91⟩
theorem cx_vl_ok_18 : cx_VOK (0, 137, 112, 0, 5) := ⟨D_Cn, rfl, rfl, cw_211, cw_212, cw_213, cw_11, pd_112⟩
theorem cx_vl_ok_19 : cx_VOK (0, 140, 121, 0, 6) := ⟨D_Re, rfl, rfl, cw_214, cw_215, cw_216, cw_13, pd_121⟩
theorem cx_vl_ok_20 : cx_VOK (0, 143, 132, 0, 7) := ⟨D_Ma, rfl, rfl, cw_217, cw_218, cw_219, cw_15, pd_132⟩
theorem cx_vl_ok_21 : cx_VOK (0, 146, 133, 0, 7) := ⟨D_Ma, rfl, rfl, cw_220, cw_221, cw_222, cw_15, pd_133⟩
theorem cx_vl_ok_22 : cx_VOK (0, 149, 82, 0, 4) := ⟨D_Co, rfl, rfl, cw_223, cw_224, cw_225, cw_9, pd_82⟩
theorem cx_vl_ok_23 : cx_VOK (0, 152, 90, 0, 4) := ⟨D_Co, rfl, rfl, cw_226, cw_227, cw_228, cw_9, pd_90⟩
theorem cx_vl_ok_24 : cx_VOK (0, 155, 84, 1, 4) := ⟨D_Co, rfl, rfl, cw_229, cw_230, cw_231, cw_9, pd_84⟩
theorem cx_vl_ok_25 : cx_VOK (0, 158, 85, 1, 4) := ⟨D_Co, rfl, rfl, cw_232, cw_233, cw_234, cw_9, pd_85⟩
theorem cx_vl_ok_26 : cx_VOK (0, 161, 118, 0, 6) := ⟨D_Re, rfl, rfl, cw_235, cw_236, cw_237, cw_13, pd_118⟩
theorem cx_vl_ok_27 : cx_VOK (0, 164, 119, 0, 6) := ⟨D_Re, rfl, rfl, cw_238, cw_239, cw_240, cw_13, pd_119⟩
theorem cx_vl_ok_28 : cx_VOK (0, 167, 120, 1, 6) := ⟨D_Re, rfl, rfl, cw_241, cw_242, cw_243, cw_13, pd_120⟩
theorem cx_vl_ok_29 : cx_VOK (0, 172, 22, 2, 0) := ⟨D_C, rfl, rfl, cw_244, cw_245, cw_246, cw_1, pd_22⟩
theorem cx_vl_ok_30 : cx_VOK (0, 177, 111, 1, 5) := ⟨D_Cn, rfl, rfl, cw_247, cw_248, cw_249, cw_11, pd_111⟩
theorem cx_vl_ok_31 : cx_VOK (0, 181, 58, 1, 2) := ⟨D_Ci, rfl, rfl, cw_250, cw_251, cw_252, cw_5, pd_58⟩
theorem cx_vl_ok_32 : cx_VOK (0, 184, 134, 1, 7) := ⟨D_Ma, rfl, rfl, cw_253, cw_254, cw_255, cw_15, pd_134⟩
theorem cx_vl_ok_33 : cx_VOK (0, 185, 57, 0, 2) := ⟨D_Ci, rfl, rfl, cw_256, cw_257, cw_258, cw_5, pd_57⟩
theorem cx_vl_ok_34 : cx_VOK (0, 186, 43, 1, 2) := ⟨D_Ci, rfl, rfl, cw_259, cw_260, cw_261, cw_5, pd_43⟩
theorem cx_vl_ok_35 : cx_VOK (0, 189, 110, 1, 5) := ⟨D_Cn, rfl, rfl, cw_262, cw_263, cw_264, cw_11, pd_110⟩
theorem cx_vl_ok_36 : cx_VOK (0, 192, 86, 1, 4) := ⟨D_Co, rfl, rfl, cw_265, cw_266, cw_267, cw_9, pd_86⟩
theorem cx_vl_ok_37 : cx_VOK (0, 195, 109, 1, 5) := ⟨D_Cn, rfl, rfl, cw_268, cw_269, cw_270, cw_11, pd_109⟩
theorem cx_vl_ok_38 : cx_VOK (1, 28, 39, 3, 1) := ⟨D_Gr, rfl, rfl, cw_271, cw_272, cw_273, cw_3, pd_39⟩
theorem cx_vl_ok_39 : cx_VOK (1, 32, 28, 1, 1) := ⟨D_Gr, rfl, rfl, cw_274, cw_275, cw_276, cw_3, pd_28⟩
theorem cx_vl_ok_40 : cx_VOK (1, 36, 38, 3, 1) := ⟨D_Gr, rfl, rfl, cw_277, cw_278, cw_279, cw_3, pd_38⟩
theorem cx_vl_ok_41 : cx_VOK (1, 39, 36, 1, 1) := ⟨D_Gr, rfl, rfl, cw_280, cw_281, cw_282, cw_3, pd_36⟩
theorem cx_vl_ok_42 : cx_VOK (2, 50, 24, 0, 1) := ⟨D_Gr, rfl, rfl, cw_283, cw_182, cw_183, cw_3, pd_24⟩
theorem cx_vl_ok_43 : cx_VOK (2, 56, 34, 1, 1) := ⟨D_Gr, rfl, rfl, cw_284, cw_285, cw_286, cw_3, pd_34⟩
theorem cx_vl_ok_44 : cx_VOK (2, 60, 64, 2, 2) := ⟨D_Ci, rfl, rfl, cw_287, cw_288, cw_289, cw_5, pd_64⟩
theorem cx_vl_ok_45 : cx_VOK (2, 64, 35, 1, 1) := ⟨D_Gr, rfl, rfl, cw_290, cw_291, cw_292, cw_3, pd_35⟩
theorem cx_vl_ok_46 : cx_VOK (2, 67, 41, 1, 2) := ⟨D_Ci, rfl, rfl, cw_293, cw_185, cw_186, cw_5, pd_41⟩
theorem cx_vl_ok_47 : cx_VOK (2, 71, 63, 1, 2) := ⟨D_Ci, rfl, rfl, cw_294, cw_295, cw_296, cw_5, pd_63⟩
theorem cx_vl_ok_48 : cx_VOK (2, 74, 51, 3, 2) := ⟨D_Ci, rfl, rfl, cw_297, cw_167, cw_168, cw_5, pd_51⟩
theorem cx_vl_ok_49 : cx_VOK (2, 82, 47, 1, 2) := ⟨D_Ci, rfl, rfl, cw_298, cw_299, cw_300, cw_5, pd_47⟩
theorem cx_vl_ok_50 : cx_VOK (2, 85, 27, 1, 1) := ⟨D_Gr, rfl, rfl, cw_301, cw_302, cw_303, cw_3, pd_27⟩
theorem cx_vl_ok_51 : cx_VOK (2, 88, 33, 1, 1) := ⟨D_Gr, rfl, rfl, cw_304, cw_305, cw_306, cw_3, pd_33⟩
theorem cx_vl_ok_52 : cx_VOK (2, 94, 59, 2, 2) := ⟨D_Ci, rfl, rfl, cw_307, cw_308, cw_309, cw_5, pd_59⟩
theorem cx_vl_ok_53 : cx_VOK (2, 97, 45, 1, 2) := ⟨D_Ci, rfl, rfl, cw_310, cw_311, cw_312, cw_5, pd_45⟩
theorem cx_vl_ok_54 : cx_VOK (2, 100, 26, 1, 1) := ⟨D_Gr, rfl, rfl, cw_313, cw_314, cw_315, cw_3, pd_26⟩
theorem cx_vl_ok_55 : cx_VOK (2, 103, 31, 1, 1) := ⟨D_Gr, rfl, rfl, cw_316, cw_194, cw_195, cw_3, pd_31⟩
theorem cx_vl_ok_56 : cx_VOK (2, 106, 28, 1, 1) := ⟨D_Gr, rfl, rfl, cw_317, cw_275, cw_276, cw_3, pd_28⟩
theorem cx_vl_ok_57 : cx_VOK (2, 109, 32, 1, 1) := ⟨D_Gr, rfl, rfl, cw_318, cw_197, cw_198, cw_3, pd_32⟩
theorem cx_vl_ok_58 : cx_VOK (2, 120, 36, 1, 1) := ⟨D_Gr, rfl, rfl, cw_319, cw_281, cw_282, cw_3, pd_36⟩
theorem cx_vl_ok_59 : cx_VOK (2, 123, 37, 2, 1) := ⟨D_Gr, rfl, rfl, cw_320, cw_321, cw_322, cw_3, pd_37⟩
theorem cx_vl_ok_60 : cx_VOK (3, 38, 75, 1, 3) := ⟨D_Li, rfl, rfl, cw_323, cw_324, cw_325, cw_7, pd_75⟩
theorem cx_vl_ok_61 : cx_VOK (4, 56, 25, 1, 1) := ⟨D_Gr, rfl, rfl, cw_326, cw_191, cw_192, cw_3, pd_25⟩
theorem cx_vl_ok_62 : cx_VOK (4, 62, 69, 1, 3) := ⟨D_Li, rfl, rfl, cw_327, cw_328, cw_329, cw_7, pd_69⟩
theorem cx_vl_ok_63 : cx_VOK (4, 68, 68, 1, 3) := ⟨D_Li, rfl, rfl, cw_330, cw_331, cw_332, cw_7, pd_68⟩
theorem cx_vl_ok_64 : cx_VOK (4, 71, 72, 2, 3) := ⟨D_Li, rfl, rfl, cw_333, cw_334, cw_335, cw_7, pd_72⟩
theorem cx_vl_ok_65 : cx_VOK (4, 75, 67, 1, 3) := ⟨D_Li, rfl, rfl, cw_336, cw_337, cw_338, cw_7, pd_67⟩
theorem cx_vl_ok_66 : cx_VOK (4, 78, 92, 0, 4) := ⟨D_Co, rfl, rfl, cw_339, cw_340, cw_341, cw_9, pd_92⟩
theorem cx_vl_ok_67 : cx_VOK (4, 81, 93, 0, 4) := ⟨D_Co, rfl, rfl, cw_342, cw_343, cw_344, cw_9, pd_93⟩
theorem cx_vl_ok_68 : cx_VOK (4, 84, 24, 0, 1) := ⟨D_Gr, rfl, rfl, cw_345, cw_182, cw_183, cw_3, pd_24⟩
theorem cx_vl_ok_69 : cx_VOK (4, 88, 94, 1, 4) := ⟨D_Co, rfl, rfl, cw_346, cw_347, cw_348, cw_9, pd_94⟩
theorem cx_vl_ok_70 : cx_VOK (4, 91, 30, 1, 1) := ⟨D_Gr, rfl, rfl, cw_349, cw_350, cw_351, cw_3, pd_30⟩
theorem cx_vl_ok_71 : cx_VOK (4, 94, 96, 1, 4) := ⟨D_Co, rfl, rfl, cw_352, cw_353, cw_354, cw_9, pd_96⟩
theorem cx_vl_ok_72 : cx_VOK (4, 98, 100, 0, 4) := ⟨D_Co, rfl, rfl, cw_355, cw_356, cw_357, cw_9, pd_100⟩
theorem cx_vl_ok_73 : cx_VOK (4, 101, 102, 0, 4) := ⟨D_Co, rfl, rfl, cw_358, cw_359, cw_360, cw_9, pd_102⟩
theorem cx_vl_ok_74 : cx_VOK (4, 104, 44, 0, 2) := ⟨D_Ci, rfl, rfl, cw_361, cw_362, cw_363, cw_5, pd_44⟩
theorem cx_vl_ok_75 : cx_VOK (4, 109, 45, 1, 2) := ⟨D_Ci, rfl, rfl, cw_364, cw_311, cw_312, cw_5, pd_45⟩
theorem cx_vl_ok_76 : cx_VOK (4, 112, 46, 0, 2) := ⟨D_Ci, rfl, rfl, cw_365, cw_366, cw_367, cw_5, pd_46⟩
theorem cx_vl_ok_77 : cx_VOK (4, 115, 47, 1, 2) := ⟨D_Ci, rfl, rfl, cw_368, cw_299, cw_300, cw_5, pd_47⟩
theorem cx_vl_ok_78 : cx_VOK (4, 124, 31, 1, 1) := ⟨D_Gr, rfl, rfl, cw_369, cw_194, cw_195, cw_3, pd_31⟩
theorem cx_vl_ok_79 : cx_VOK (4, 127, 29, 1, 1) := ⟨D_Gr, rfl, rfl, cw_370, cw_371, cw_372, cw_3, pd_29⟩
theorem cx_vl_ok_80 : cx_VOK (4, 130, 32, 1, 1) := ⟨D_Gr, rfl, rfl, cw_373, cw_197, cw_198, cw_3, pd_32⟩
theorem cx_vl_ok_81 : cx_VOK (4, 134, 66, 0, 3) := ⟨D_Li, rfl, rfl, cw_374, cw_375, cw_376, cw_7, pd_66⟩
theorem cx_vl_ok_82 : cx_VOK (4, 135, 70, 1, 3) := ⟨D_Li, rfl, rfl, cw_377, cw_378, cw_379, cw_7, pd_70⟩
theorem cx_vl_ok_83 : cx_VOK (4, 138, 99, 3, 4) := ⟨D_Co, rfl, rfl, cw_380, cw_381, cw_382, cw_9, pd_99⟩
theorem cx_vl_ok_84 : cx_VOK (4, 142, 97, 2, 4) := ⟨D_Co, rfl, rfl, cw_383, cw_384, cw_385, cw_9, pd_97⟩
theorem cx_vl_ok_85 : cx_VOK (4, 146, 98, 1, 4) := ⟨D_Co, rfl, rfl, cw_386, cw_387, cw_388, cw_9, pd_98⟩
theorem cx_vl_ok_86 : cx_VOK (4, 155, 95, 1, 4) := ⟨D_Co, rfl, rfl, cw_389, cw_390, cw_391, cw_9, pd_95⟩
theorem cx_vl_ok_87 : cx_VOK (4, 158, 71, 2, 3) := ⟨D_Li, rfl, rfl, cw_392, cw_393, cw_394, cw_7, pd_71⟩
theorem cx_vl_ok_88 : cx_VOK (4, 161, 28, 1, 1) := ⟨D_Gr, rfl, rfl, cw_395, cw_275, cw_276, cw_3, pd_28⟩
theorem cx_vl_ok_89 : cx_VOK (4, 164, 101, 1, 4) := ⟨D_Co, rfl, rfl, cw_396, cw_397, cw_398, cw_9, pd_101⟩
theorem cx_vl_ok_90 : cx_VOK (4, 167, 86, 1, 4) := ⟨D_Co, rfl, rfl, cw_399, cw_266, cw_267, cw_9, pd_86⟩
theorem cx_vl_ok_91 : cx_VOK (4, 170, 89, 2, 4) := ⟨D_Co, rfl, rfl, cw_400, cw_401, cw_402, cw_9, pd_89⟩
theorem cx_vl_ok_92 : cx_VOK (5, 49, 82, 0, 4) := ⟨D_Co, rfl, rfl, cw_403, cw_224, cw_225, cw_9, pd_82⟩
theorem cx_vl_ok_93 : cx_VOK (5, 55, 83, 1, 4) := ⟨D_Co, rfl, rfl, cw_404, cw_405, cw_406, cw_9, pd_83⟩
theorem cx_vl_ok_94 : cx_VOK (5, 59, 115, 1, 5) := ⟨D_Cn, rfl, rfl, cw_407, cw_408, cw_409, cw_11, pd_115⟩
theorem cx_vl_ok_95 : cx_VOK (5, 63, 44, 0, 2) := ⟨D_Ci, rfl, rfl, cw_410, cw_362, cw_363, cw_5, pd_44⟩
theorem cx_vl_ok_96 : cx_VOK (5, 68, 45, 1, 2) := ⟨D_Ci, rfl, rfl, cw_411, cw_311, cw_312, cw_5, pd_45⟩
theorem cx_vl_ok_97 : cx_VOK (5, 71, 116, 2, 5) := ⟨D_Cn, rfl, rfl, cw_412, cw_413, cw_414, cw_11, pd_116⟩
theorem cx_vl_ok_98 : cx_VOK (5, 75, 86, 1, 4) := ⟨D_Co, rfl, rfl, cw_415, cw_266, cw_267, cw_9, pd_86⟩
theorem cx_vl_ok_99 : cx_VOK (5, 78, 89, 2, 4) := ⟨D_Co, rfl, rfl, cw_416, cw_401, cw_402, cw_9, pd_89⟩
theorem cx_vl_ok_100 : cx_VOK (5, 82, 27, 1, 1) := ⟨D_Gr, rfl, rfl, cw_417, cw_302, cw_303, cw_3, pd_27⟩
theorem cx_vl_ok_101 : cx_VOK (5, 88, 33, 1, 1) := ⟨D_Gr, rfl, rfl, cw_418, cw_305, cw_306, cw_3, pd_33⟩
theorem cx_vl_ok_102 : cx_VOK (5, 91, 48, 1, 2) := ⟨D_Ci, rfl, rfl, cw_419, cw_420, cw_421, cw_5, pd_48⟩
theorem cx_vl_ok_103 : cx_VOK (5, 94, 47, 1, 2) := ⟨D_Ci, rfl, rfl, cw_422, cw_299, cw_300, cw_5, pd_47⟩
theorem cx_vl_ok_104 : cx_VOK (6, 42, 123, 0, 6) := ⟨D_Re, rfl, rfl, cw_423, cw_424, cw_425, cw_13, pd_123⟩
theorem cx_vl_ok_105 : cx_VOK (6, 46, 122, 0, 6) := ⟨D_Re, rfl, rfl, cw_426, cw_427, cw_428, cw_13, pd_122⟩
theorem cx_vl_ok_106 : cx_VOK (6, 49, 82, 0, 4) := ⟨D_Co, rfl, rfl, cw_429, cw_224, cw_225, cw_9, pd_82⟩
theorem cx_vl_ok_107 : cx_VOK (6, 54, 126, 1, 6) := ⟨D_Re, rfl, rfl, cw_430, cw_431, cw_432, cw_13, pd_126⟩
theorem cx_vl_ok_108 : cx_VOK (6, 58, 127, 0, 6) := ⟨D_Re, rfl, rfl, cw_433, cw_434, cw_435, cw_13, pd_127⟩
theorem cx_vl_ok_109 : cx_VOK (6, 68, 128, 0, 6) := ⟨D_Re, rfl, rfl, cw_436, cw_437, cw_438, cw_13, pd_128⟩
theorem cx_vl_ok_110 : cx_VOK (6, 71, 83, 1, 4) := ⟨D_Co, rfl, rfl, cw_439, cw_405, cw_406, cw_9, pd_83⟩
theorem cx_vl_ok_111 : cx_VOK (6, 75, 87, 1, 4) := ⟨D_Co, rfl, rfl, cw_440, cw_441, cw_442, cw_9, pd_87⟩
theorem cx_vl_ok_112 : cx_VOK (6, 84, 124, 0, 6) := ⟨D_Re, rfl, rfl, cw_443, cw_444, cw_445, cw_13, pd_124⟩
theorem cx_vl_ok_113 : cx_VOK (6, 87, 104, 0, 5) := ⟨D_Cn, rfl, rfl, cw_446, cw_447, cw_448, cw_11, pd_104⟩
theorem cx_vl_ok_114 : cx_VOK (6, 92, 105, 1, 5) := ⟨D_Cn, rfl, rfl, cw_449, cw_450, cw_451, cw_11, pd_105⟩
theorem cx_vl_ok_115 : cx_VOK (6, 95, 106, 1, 5) := ⟨D_Cn, rfl, rfl, cw_452, cw_453, cw_454, cw_11, pd_106⟩
theorem cx_vl_ok_116 : cx_VOK (6, 98, 84, 1, 4) := ⟨D_Co, rfl, rfl, cw_455, cw_230, cw_231, cw_9, pd_84⟩
theorem cx_vl_ok_117 : cx_VOK (6, 102, 125, 1, 6) := ⟨D_Re, rfl, rfl, cw_456, cw_457, cw_458, cw_13, pd_125⟩
theorem cx_vl_ok_118 : cx_VOK (6, 105, 107, 1, 5) := ⟨D_Cn, rfl, rfl, cw_459, cw_460, cw_461, cw_11, pd_107⟩
theorem cx_vl_ok_119 : cx_VOK (6, 108, 129, 1, 6) := ⟨D_Re, rfl, rfl, cw_462, cw_463, cw_464, cw_13, pd_129⟩
theorem cx_vl_ok_120 : cx_VOK (6, 111, 130, 1, 6) := ⟨D_Re, rfl, rfl, cw_465, cw_466, cw_467, cw_13, pd_130⟩
theorem cx_vl_ok_121 : cx_VOK (6, 114, 109, 1, 5) := ⟨D_Cn, rfl, rfl, cw_468, cw_269, cw_270, cw_11, pd_109⟩
theorem cx_vl_ok_122 : cx_VOK (6, 117, 86, 1, 4) := ⟨D_Co, rfl, rfl, cw_469, cw_266, cw_267, cw_9, pd_86⟩
theorem cx_vl_ok_123 : cx_VOK (6, 120, 113, 1, 5) := ⟨D_Cn, rfl, rfl, cw_470, cw_471, cw_472, cw_11, pd_113⟩
theorem cx_vl_ok_124 : cx_VOK (6, 123, 88, 2, 4) := ⟨D_Co, rfl, rfl, cw_473, cw_474, cw_475, cw_9, pd_88⟩
theorem cx_vl_ok_125 : cx_VOK (6, 126, 114, 2, 5) := ⟨D_Cn, rfl, rfl, cw_476, cw_477, cw_478, cw_11, pd_114⟩
theorem cx_vl_ok_126 : cx_VOK (7, 44, 82, 0, 4) := ⟨D_Co, rfl, rfl, cw_479, cw_224, cw_225, cw_9, pd_82⟩
theorem cx_vl_ok_127 : cx_VOK (7, 50, 83, 1, 4) := ⟨D_Co, rfl, rfl, cw_480, cw_405, cw_406, cw_9, pd_83⟩
theorem cx_vl_ok_128 : cx_VOK (7, 54, 135, 1, 7) := ⟨D_Ma, rfl, rfl, cw_481, cw_482, cw_483, cw_15, pd_135⟩
theorem cx_vl_ok_129 : cx_VOK (7, 58, 104, 0, 5) := ⟨D_Cn, rfl, rfl, cw_484, cw_447, cw_448, cw_11, pd_104⟩
theorem cx_vl_ok_130 : cx_VOK (7, 61, 108, 1, 5) := ⟨D_Cn, rfl, rfl, cw_485, cw_486, cw_487, cw_11, pd_108⟩
theorem cx_vl_ok_131 : cx_VOK (7, 65, 136, 1, 7) := ⟨D_Ma, rfl, rfl, cw_488, cw_489, cw_490, cw_15, pd_136⟩
theorem cx_vl_ok_132 : cx_VOK (7, 69, 137, 1, 7) := ⟨D_Ma, rfl, rfl, cw_491, cw_492, cw_493, cw_15, pd_137⟩
theorem cx_vl_ok_133 : cx_VOK (7, 72, 44, 0, 2) := ⟨D_Ci, rfl, rfl, cw_494, cw_362, cw_363, cw_5, pd_44⟩
theorem cx_vl_ok_134 : cx_VOK (7, 77, 110, 1, 5) := ⟨D_Cn, rfl, rfl, cw_495, cw_263, cw_264, cw_11, pd_110⟩
theorem cx_vl_ok_135 : cx_VOK (7, 80, 138, 1, 7) := ⟨D_Ma, rfl, rfl, cw_496, cw_497, cw_498, cw_15, pd_138⟩
theorem cx_vl_ok_136 : cx_VOK (7, 83, 139, 0, 7) := ⟨D_Ma, rfl, rfl, cw_499, cw_500, cw_501, cw_15, pd_139⟩
theorem cx_vl_ok_137 : cx_VOK (7, 86, 109, 1, 5) := ⟨D_Cn, rfl, rfl, cw_502, cw_269, cw_270, cw_11, pd_109⟩
theorem cx_vl_ok_138 : cx_VOK (7, 89, 86, 1, 4) := ⟨D_Co, rfl, rfl, cw_503, cw_266, cw_267, cw_9, pd_86⟩
theorem cx_vl_ok_139 : cx_VOK (7, 92, 105, 1, 5) := ⟨D_Cn, rfl, rfl, cw_504, cw_450, cw_451, cw_11, pd_105⟩
theorem cx_vl_ok_140 : cx_VOK (7, 95, 107, 1, 5) := ⟨D_Cn, rfl, rfl, cw_505, cw_460, cw_461, cw_11, pd_107⟩
theorem cx_vl_ok_141 : cx_VOK (7, 98, 84, 1, 4) := ⟨D_Co, rfl, rfl, cw_506, cw_230, cw_231, cw_9, pd_84⟩
theorem cx_vl_ok_142 : cx_VOK (7, 101, 24, 0, 1) := ⟨D_Gr, rfl, rfl, cw_507, cw_182, cw_183, cw_3, pd_24⟩
theorem cx_vl_ok_143 : cx_VOK (7, 104, 26, 1, 1) := ⟨D_Gr, rfl, rfl, cw_508, cw_314, cw_315, cw_3, pd_26⟩
theorem cx_vl_ok_144 : cx_VOK (7, 107, 33, 1, 1) := ⟨D_Gr, rfl, rfl, cw_509, cw_305, cw_306, cw_3, pd_33⟩
theorem cx_vl_ok_145 : cx_VOK (7, 110, 88, 2, 4) := ⟨D_Co, rfl, rfl, cw_510, cw_474, cw_475, cw_9, pd_88⟩
theorem cx_vl_ok_146 : cx_VOK (8, 139, 141, 4, 8) := ⟨D_M, rfl, rfl, cw_511, cw_512, cw_513, cw_17, pd_141⟩
theorem cx_vl_ok_147 : cx_VOK (8, 143, 142, 3, 8) := ⟨D_M, rfl, rfl, cw_514, cw_515, cw_516, cw_17, pd_142⟩
theorem cx_vl_ok_148 : cx_VOK (8, 147, 143, 1, 8) := ⟨D_M, rfl, rfl, cw_517, cw_518, cw_519, cw_17, pd_143⟩
theorem cx_vl_ok_149 : cx_VOK (8, 151, 144, 2, 8) := ⟨D_M, rfl, rfl, cw_520, cw_521, cw_522, cw_17, pd_144⟩
theorem cx_vl_ok_150 : cx_VOK (8, 155, 145, 5, 8) := ⟨D_M, rfl, rfl, cw_523, cw_524, cw_525, cw_17, pd_145⟩
theorem cx_vl_ok_151 : cx_VOK (8, 159, 147, 2, 8) := ⟨D_M, rfl, rfl, cw_526, cw_527, cw_528, cw_17, pd_147⟩
theorem cx_vl_ok_152 : cx_VOK (8, 165, 148, 3, 8) := ⟨D_M, rfl, rfl, cw_529, cw_530, cw_531, cw_17, pd_148⟩
theorem cx_vl_ok_153 : cx_VOK (8, 175, 151, 0, 8) := ⟨D_M, rfl, rfl, cw_532, cw_533, cw_534, cw_17, pd_151⟩
theorem cx_vl_ok_154 : cx_VOK (8, 181, 152, 3, 8) := ⟨D_M, rfl, rfl, cw_535, cw_536, cw_537, cw_17, pd_152⟩
theorem cx_vl_ok_155 : cx_VOK (8, 187, 150, 1, 8) := ⟨D_M, rfl, rfl, cw_538, cw_539, cw_540, cw_17, pd_150⟩
theorem cx_vl_ok_156 : cx_VOK (8, 191, 149, 4, 8) := ⟨D_M, rfl, rfl, cw_541, cw_542, cw_543, cw_17, pd_149⟩
theorem cx_vl_ok_157 : cx_VOK (8, 203, 163, 1, 8) := ⟨D_M, rfl, rfl, cw_544, cw_545, cw_546, cw_17, pd_163⟩
theorem cx_vl_ok_158 : cx_VOK (8, 206, 164, 1, 8) := ⟨D_M, rfl, rfl, cw_547, cw_548, cw_549, cw_17, pd_164⟩
theorem cx_vl_ok_159 : cx_VOK (8, 210, 166, 1, 8) := ⟨D_M, rfl, rfl, cw_550, cw_551, cw_552, cw_17, pd_166⟩
theorem cx_vl_ok_160 : cx_VOK (8, 217, 167, 3, 8) := ⟨D_M, rfl, rfl, cw_553, cw_554, cw_555, cw_17, pd_167⟩
theorem cx_vl_ok_161 : cx_VOK (8, 220, 165, 0, 8) := ⟨D_M, rfl, rfl, cw_556, cw_557, cw_558, cw_17, pd_165⟩
theorem cx_vl_ok_162 : cx_VOK (8, 223, 168, 1, 8) := ⟨D_M, rfl, rfl, cw_559, cw_560, cw_561, cw_17, pd_168⟩
theorem cx_vl_ok_163 : cx_VOK (8, 226, 169, 2, 8) := ⟨D_M, rfl, rfl, cw_562, cw_563, cw_564, cw_17, pd_169⟩
theorem cx_vl_ok_164 : cx_VOK (8, 230, 171, 1, 8) := ⟨D_M, rfl, rfl, cw_565, cw_566, cw_567, cw_17, pd_171⟩
theorem cx_vl_ok_165 : cx_VOK (8, 233, 172, 3, 8) := ⟨D_M, rfl, rfl, cw_568, cw_569, cw_570, cw_17, pd_172⟩
theorem cx_vl_ok_166 : cx_VOK (8, 240, 174, 1, 8) := ⟨D_M, rfl, rfl, cw_571, cw_572, cw_573, cw_17, pd_174⟩
theorem cx_vl_ok_167 : cx_VOK (8, 243, 175, 1, 8) := ⟨D_M, rfl, rfl, cw_574, cw_575, cw_576, cw_17, pd_175⟩
theorem cx_vl_ok_168 : cx_VOK (8, 249, 179, 1, 8) := ⟨D_M, rfl, rfl, cw_577, cw_578, cw_579, cw_17, pd_179⟩
theorem cx_vl_ok_169 : cx_VOK (8, 252, 178, 2, 8) := ⟨D_M, rfl, rfl, cw_580, cw_581, cw_582, cw_17, pd_178⟩
theorem cx_vl_ok_170 : cx_VOK (8, 256, 177, 2, 8) := ⟨D_M, rfl, rfl, cw_583, cw_584, cw_585, cw_17, pd_177⟩
theorem cx_vl_ok_171 : cx_VOK (8, 259, 180, 2, 8) := ⟨D_M, rfl, rfl, cw_586, cw_587, cw_588, cw_17, pd_180⟩
theorem cx_vl_ok_172 : cx_VOK (8, 262, 181, 1, 8) := ⟨D_M, rfl, rfl, cw_589, cw_590, cw_591, cw_17, pd_181⟩
theorem cx_vl_ok_173 : cx_VOK (8, 265, 183, 0, 8) := ⟨D_M, rfl, rfl, cw_592, cw_593, cw_594, cw_17, pd_183⟩
theorem cx_vl_ok_174 : cx_VOK (8, 269, 184, 0, 8) := ⟨D_M, rfl, rfl, cw_595, cw_596, cw_597, cw_17, pd_184⟩
theorem cx_vl_ok_175 : cx_VOK (8, 272, 185, 1, 8) := ⟨D_M, rfl, rfl, cw_598, cw_599, cw_600, cw_17, pd_185⟩
theorem cx_vl_ok_176 : cx_VOK (8, 275, 170, 0, 8) := ⟨D_M, rfl, rfl, cw_601, cw_602, cw_603, cw_17, pd_170⟩
theorem cx_vl_ok_177 : cx_VOK (8, 278, 173, 0, 8) := ⟨D_M, rfl, rfl, cw_604, cw_605, cw_606, cw_17, pd_173⟩
theorem cx_vl_ok_178 : cx_VOK (8, 281, 176, 0, 8) := ⟨D_M, rfl, rfl, cw_607, cw_608, cw_609, cw_17, pd_176⟩
theorem cx_vl_ok_179 : cx_VOK (8, 284, 182, 0, 8) := ⟨D_M, rfl, rfl, cw_610, cw_611, cw_612, cw_17, pd_182⟩
theorem cx_vl_ok_180 : cx_VOK (8, 287, 186, 0, 8) := ⟨D_M, rfl, rfl, cw_613, cw_614, cw_615, cw_17, pd_186⟩
theorem cx_vl_ok_181 : cx_VOK (8, 291, 189, 1, 8) := ⟨D_M, rfl, rfl, cw_616, cw_617, cw_618, cw_17, pd_189⟩
theorem cx_vl_ok_182 : cx_VOK (8, 300, 195, 2, 8) := ⟨D_M, rfl, rfl, cw_619, cw_620, cw_621, cw_17, pd_195⟩
theorem cx_vl_ok_183 : cx_VOK (8, 303, 197, 1, 8) := ⟨D_M, rfl, rfl, cw_622, cw_623, cw_624, cw_17, pd_197⟩
theorem cx_vl_ok_184 : cx_VOK (8, 306, 198, 1, 8) := ⟨D_M, rfl, rfl, cw_625, cw_626, cw_627, cw_17, pd_198⟩
theorem cx_vl_ok_185 : cx_VOK (8, 309, 199, 1, 8) := ⟨D_M, rfl, rfl, cw_628, cw_629, cw_630, cw_17, pd_199⟩
theorem cx_vl_ok_186 : cx_VOK (9, 13, 1, 0, 0) := ⟨D_C, rfl, rfl, cw_631, cw_632, cw_633, cw_1, pd_1⟩
theorem cx_vl_ok_187 : cx_VOK (9, 17, 153, 0, 8) := ⟨D_M, rfl, rfl, cw_634, cw_635, cw_636, cw_17, pd_153⟩
theorem cx_vl_ok_188 : cx_VOK (9, 18, 2, 1, 0) := ⟨D_C, rfl, rfl, cw_637, cw_638, cw_639, cw_1, pd_2⟩
theorem cx_vl_ok_189 : cx_VOK (9, 22, 154, 1, 8) := ⟨D_M, rfl, rfl, cw_640, cw_641, cw_642, cw_17, pd_154⟩
theorem cx_vl_ok_190 : cx_VOK (9, 23, 3, 4, 0) := ⟨D_C, rfl, rfl, cw_643, cw_644, cw_645, cw_1, pd_3⟩
theorem cx_vl_ok_191 : cx_VOK (9, 27, 155, 4, 8) := ⟨D_M, rfl, rfl, cw_646, cw_647, cw_648, cw_17, pd_155⟩
theorem cx_vl_ok_192 : cx_VOK (9, 28, 4, 2, 0) := ⟨D_C, rfl, rfl, cw_649, cw_650, cw_651, cw_1, pd_4⟩
theorem cx_vl_ok_193 : cx_VOK (9, 32, 156, 2, 8) := ⟨D_M, rfl, rfl, cw_652, cw_653, cw_654, cw_17, pd_156⟩
theorem cx_vl_ok_194 : cx_VOK (9, 33, 5, 1, 0) := ⟨D_C, rfl, rfl, cw_655, cw_656, cw_657, cw_1, pd_5⟩
theorem cx_vl_ok_195 : cx_VOK (9, 36, 157, 1, 8) := ⟨D_M, rfl, rfl, cw_658, cw_659, cw_660, cw_17, pd_157⟩
theorem cx_vl_ok_196 : cx_VOK (9, 37, 6, 3, 0) := ⟨D_C, rfl, rfl, cw_661, cw_662, cw_663, cw_1, pd_6⟩
theorem cx_vl_ok_197 : cx_VOK (9, 41, 159, 3, 8) := ⟨D_M, rfl, rfl, cw_664, cw_665, cw_666, cw_17, pd_159⟩
theorem cx_vl_ok_198 : cx_VOK (9, 42, 7, 0, 0) := ⟨D_C, rfl, rfl, cw_667, cw_668, cw_669, cw_1, pd_7⟩
theorem cx_vl_ok_199 : cx_VOK (9, 45, 160, 0, 8) := ⟨D_M, rfl, rfl, cw_670, cw_671, cw_672, cw_17, pd_160⟩
theorem cx_vl_ok_200 : cx_VOK (9, 46, 8, 1, 0) := ⟨D_C, rfl, rfl, cw_673, cw_674, cw_675, cw_1, pd_8⟩
theorem cx_vl_ok_201 : cx_VOK (9, 49, 161, 1, 8) := ⟨D_M, rfl, rfl, cw_676, cw_677, cw_678, cw_17, pd_161⟩
theorem cx_vl_ok_202 : cx_VOK (9, 50, 9, 2, 0) := ⟨D_C, rfl, rfl, cw_679, cw_680, cw_681, cw_1, pd_9⟩
theorem cx_vl_ok_203 : cx_VOK (9, 54, 162, 2, 8) := ⟨D_M, rfl, rfl, cw_682, cw_683, cw_684, cw_17, pd_162⟩
theorem cx_vl_ok_204 : cx_VOK (9, 55, 10, 0, 0) := ⟨D_C, rfl, rfl, cw_685, cw_686, cw_687, cw_1, pd_10⟩
theorem cx_vl_ok_205 : cx_VOK (9, 58, 187, 0, 8) := ⟨D_M, rfl, rfl, cw_688, cw_689, cw_690, cw_17, pd_187⟩
theorem cx_vl_ok_206 : cx_VOK (9, 59, 11, 0, 0) := ⟨D_C, rfl, rfl, cw_691, cw_692, cw_693, cw_1, pd_11⟩
theorem cx_vl_ok_207 : cx_VOK (9, 62, 188, 0, 8) := ⟨D_M, rfl, rfl, cw_694, cw_695, cw_696, cw_17, pd_188⟩
theorem cx_vl_ok_208 : cx_VOK (9, 63, 12, 1, 0) := ⟨D_C, rfl, rfl, cw_697, cw_698, cw_699, cw_1, pd_12⟩
theorem cx_vl_ok_209 : cx_VOK (9, 66, 190, 1, 8) := ⟨D_M, rfl, rfl, cw_700, cw_701, cw_702, cw_17, pd_190⟩
theorem cx_vl_ok_210 : cx_VOK (9, 67, 13, 0, 0) := ⟨D_C, rfl, rfl, cw_703, cw_704, cw_705, cw_1, pd_13⟩
theorem cx_vl_ok_211 : cx_VOK (9, 70, 191, 0, 8) := ⟨D_M, rfl, rfl, cw_706, cw_707, cw_708, cw_17, pd_191⟩
theorem cx_vl_ok_212 : cx_VOK (9, 71, 14, 0, 0) := ⟨D_C, rfl, rfl, cw_709, cw_710, cw_711, cw_1, pd_14⟩
theorem cx_vl_ok_213 : cx_VOK (9, 74, 192, 0, 8) := ⟨D_M, rfl, rfl, cw_712, cw_713, cw_714, cw_17, pd_192⟩
theorem cx_vl_ok_214 : cx_VOK (9, 75, 15, 1, 0) := ⟨D_C, rfl, rfl, cw_715, cw_716, cw_717, cw_1, pd_15⟩
theorem cx_vl_ok_215 : cx_VOK (9, 78, 193, 1, 8) := ⟨D_M, rfl, rfl, cw_718, cw_719, cw_720, cw_17, pd_193⟩
theorem cx_vl_ok_216 : cx_VOK (9, 79, 16, 2, 0) := ⟨D_C, rfl, rfl, cw_721, cw_722, cw_723, cw_1, pd_16⟩
theorem cx_vl_ok_217 : cx_VOK (9, 83, 194, 2, 8) := ⟨D_M, rfl, rfl, cw_724, cw_725, cw_726, cw_17, pd_194⟩
theorem cx_vl_ok_218 : cx_VOK (9, 84, 17, 1, 0) := ⟨D_C, rfl, rfl, cw_727, cw_728, cw_729, cw_1, pd_17⟩
theorem cx_vl_ok_219 : cx_VOK (9, 87, 196, 1, 8) := ⟨D_M, rfl, rfl, cw_730, cw_731, cw_732, cw_17, pd_196⟩
theorem cx_vl_ok_220 : cx_VOK (9, 88, 18, 1, 0) := ⟨D_C, rfl, rfl, cw_733, cw_734, cw_735, cw_1, pd_18⟩
theorem cx_vl_ok_221 : cx_VOK (9, 91, 200, 1, 8) := ⟨D_M, rfl, rfl, cw_736, cw_737, cw_738, cw_17, pd_200⟩
theorem cx_vl_ok_222 : cx_VOK (9, 92, 19, 0, 0) := ⟨D_C, rfl, rfl, cw_739, cw_740, cw_741, cw_1, pd_19⟩
theorem cx_vl_ok_223 : cx_VOK (9, 95, 201, 0, 8) := ⟨D_M, rfl, rfl, cw_742, cw_743, cw_744, cw_17, pd_201⟩
set_option maxRecDepth 100000 in
theorem cx_vl_ok : ∀ q ∈ cx_vl, cx_VOK q := List.forall_mem_cons.mpr ⟨cx_vl_ok_0, List.forall_mem_cons.mpr ⟨cx_vl_ok_1, List.forall_mem_cons.mpr ⟨cx_vl_ok_2, List.forall_mem_cons.mpr ⟨cx_vl_ok_3, List.forall_mem_cons.mpr ⟨cx_vl_ok_4, List.forall_mem_cons.mpr ⟨cx_vl_ok_5, List.forall_mem_cons.mpr ⟨cx_vl_ok_6, List.forall_mem_cons.mpr ⟨cx_vl_ok_7, List.forall_mem_cons.mpr ⟨cx_vl_ok_8, List.forall_mem_cons.mpr ⟨cx_vl_ok_9, List.forall_mem_cons.mpr ⟨cx_vl_ok_10, List.forall_mem_cons.mpr ⟨cx_vl_ok_11, List.forall_mem_cons.mpr ⟨cx_vl_ok_12, List.forall_mem_cons.mpr ⟨cx_vl_ok_13, List.forall_mem_cons.mpr ⟨cx_vl_ok_14, List.forall_mem_cons.mpr ⟨cx_vl_ok_15, List.forall_mem_cons.mpr ⟨cx_vl_ok_16, List.forall_mem_cons.mpr ⟨cx_vl_ok_17, List.forall_mem_cons.mpr ⟨cx_vl_ok_18, List.forall_mem_cons.mpr ⟨cx_vl_ok_19, List.forall_mem_cons.mpr ⟨cx_vl_ok_20, List.forall_mem_cons.mpr ⟨cx_vl_ok_21, List.forall_mem_cons.mpr ⟨cx_vl_ok_22, List.forall_mem_cons.mpr ⟨cx_vl_ok_23, List.forall_mem_cons.mpr ⟨cx_vl_ok_24, List.forall_mem_cons.mpr ⟨cx_vl_ok_25, List.forall_mem_cons.mpr ⟨cx_vl_ok_26, List.forall_mem_cons.mpr ⟨cx_vl_ok_27, List.forall_mem_cons.mpr ⟨cx_vl_ok_28, List.forall_mem_cons.mpr ⟨cx_vl_ok_29, List.forall_mem_cons.mpr ⟨cx_vl_ok_30, List.forall_mem_cons.mpr ⟨cx_vl_ok_31, List.forall_mem_cons.mpr ⟨cx_vl_ok_32, List.forall_mem_cons.mpr ⟨cx_vl_ok_33, List.forall_mem_cons.mpr ⟨cx_vl_ok_34, List.forall_mem_cons.mpr ⟨cx_vl_ok_35, List.forall_mem_cons.mpr ⟨cx_vl_ok_36, List.forall_mem_cons.mpr ⟨cx_vl_ok_37, List.forall_mem_cons.mpr ⟨cx_vl_ok_38, List.forall_mem_cons.mpr ⟨cx_vl_ok_39, List.forall_mem_cons.mpr ⟨cx_vl_ok_40, List.forall_mem_cons.mpr ⟨cx_vl_ok_41, List.forall_mem_cons.mpr ⟨cx_vl_ok_42, List.forall_mem_cons.mpr ⟨cx_vl_ok_43, List.forall_mem_cons.mpr ⟨cx_vl_ok_44, List.forall_mem_cons.mpr ⟨cx_vl_ok_45, List.forall_mem_cons.mpr ⟨cx_vl_ok_46, List.forall_mem_cons.mpr ⟨cx_vl_ok_47, List.forall_mem_cons.mpr ⟨cx_vl_ok_48, List.forall_mem_cons.mpr ⟨cx_vl_ok_49, List.forall_mem_cons.mpr ⟨cx_vl_ok_50, List.forall_mem_cons.mpr ⟨cx_vl_ok_51, List.forall_mem_cons.mpr ⟨cx_vl_ok_52, List.forall_mem_cons.mpr ⟨cx_vl_ok_53, List.forall_mem_cons.mpr ⟨cx_vl_ok_54, List.forall_mem_cons.mpr ⟨cx_vl_ok_55, List.forall_mem_cons.mpr ⟨cx_vl_ok_56, List.forall_mem_cons.mpr ⟨cx_vl_ok_57, List.forall_mem_cons.mpr ⟨cx_vl_ok_58, List.forall_mem_cons.mpr ⟨cx_vl_ok_59, List.forall_mem_cons.mpr ⟨cx_vl_ok_60, List.forall_mem_cons.mpr ⟨cx_vl_ok_61, List.forall_mem_cons.mpr ⟨cx_vl_ok_62, List.forall_mem_cons.mpr ⟨cx_vl_ok_63, List.forall_mem_cons.mpr ⟨cx_vl_ok_64, List.forall_mem_cons.mpr ⟨cx_vl_ok_65, List.forall_mem_cons.mpr ⟨cx_vl_ok_66, List.forall_mem_cons.mpr ⟨cx_vl_ok_67, List.forall_mem_cons.mpr ⟨cx_vl_ok_68, List.forall_mem_cons.mpr ⟨cx_vl_ok_69, List.forall_mem_cons.mpr ⟨cx_vl_ok_70, List.forall_mem_cons.mpr ⟨cx_vl_ok_71, List.forall_mem_cons.mpr ⟨cx_vl_ok_72, List.forall_mem_cons.mpr ⟨cx_vl_ok_73, List.forall_mem_cons.mpr ⟨cx_vl_ok_74, List.forall_mem_cons.mpr ⟨cx_vl_ok_75, List.forall_mem_cons.mpr ⟨cx_vl_ok_76, List.forall_mem_cons.mpr ⟨cx_vl_ok_77, List.forall_mem_cons.mpr ⟨cx_vl_ok_78, List.forall_mem_cons.mpr ⟨cx_vl_ok_79, List.forall_mem_cons.mpr ⟨cx_vl_ok_80, List.forall_mem_cons.mpr ⟨cx_vl_ok_81, List.forall_mem_cons.mpr ⟨cx_vl_ok_82, List.forall_mem_cons.mpr ⟨cx_vl_ok_83, List.forall_mem_cons.mpr ⟨cx_vl_ok_84, List.forall_mem_cons.mpr ⟨cx_vl_ok_85, List.forall_mem_cons.mpr ⟨cx_vl_ok_86, List.forall_mem_cons.mpr ⟨cx_vl_ok_87, List.forall_mem_cons.mpr ⟨cx_vl_ok_88, List.forall_mem_cons.mpr ⟨cx_vl_ok_89, List.forall_mem_cons.mpr ⟨cx_vl_ok_90, List.forall_mem_cons.mpr ⟨cx_vl_ok_91, List.forall_mem_cons.mpr ⟨cx_vl_ok_92, List.forall_mem_cons.mpr ⟨cx_vl_ok_93, List.forall_mem_cons.mpr ⟨cx_vl_ok_94, List.forall_mem_cons.mpr ⟨cx_vl_ok_95, List.forall_mem_cons.mpr ⟨cx_vl_ok_96, List.forall_mem_cons.mpr ⟨cx_vl_ok_97, List.forall_mem_cons.mpr ⟨cx_vl_ok_98, List.forall_mem_cons.mpr ⟨cx_vl_ok_99, List.forall_mem_cons.mpr ⟨cx_vl_ok_100, List.forall_mem_cons.mpr ⟨cx_vl_ok_101, List.forall_mem_cons.mpr ⟨cx_vl_ok_102, List.forall_mem_cons.mpr ⟨cx_vl_ok_103, List.forall_mem_cons.mpr ⟨cx_vl_ok_104, List.forall_mem_cons.mpr ⟨cx_vl_ok_105, List.forall_mem_cons.mpr ⟨cx_vl_ok_106, List.forall_mem_cons.mpr ⟨cx_vl_ok_107, List.forall_mem_cons.mpr ⟨cx_vl_ok_108, List.forall_mem_cons.mpr ⟨cx_vl_ok_109, List.forall_mem_cons.mpr ⟨cx_vl_ok_110, List.forall_mem_cons.mpr ⟨cx_vl_ok_111, List.forall_mem_cons.mpr ⟨cx_vl_ok_112, List.forall_mem_cons.mpr ⟨cx_vl_ok_113, List.forall_mem_cons.mpr ⟨cx_vl_ok_114, List.forall_mem_cons.mpr ⟨cx_vl_ok_115, List.forall_mem_cons.mpr ⟨cx_vl_ok_116, List.forall_mem_cons.mpr ⟨cx_vl_ok_117, List.forall_mem_cons.mpr ⟨cx_vl_ok_118, List.forall_mem_cons.mpr ⟨cx_vl_ok_119, List.forall_mem_cons.mpr ⟨cx_vl_ok_120, List.forall_mem_cons.mpr ⟨cx_vl_ok_121, List.forall_mem_cons.mpr ⟨cx_vl_ok_122, List.forall_mem_cons.mpr ⟨cx_vl_ok_123, List.forall_mem_cons.mpr ⟨cx_vl_ok_124, List.forall_mem_cons.mpr ⟨cx_vl_ok_125, List.forall_mem_cons.mpr ⟨cx_vl_ok_126, List.forall_mem_cons.mpr ⟨cx_vl_ok_127, List.forall_mem_cons.mpr ⟨cx_vl_ok_128, List.forall_mem_cons.mpr ⟨cx_vl_ok_129, List.forall_mem_cons.mpr ⟨cx_vl_ok_130, List.forall_mem_cons.mpr ⟨cx_vl_ok_131, List.forall_mem_cons.mpr ⟨cx_vl_ok_132, List.forall_mem_cons.mpr ⟨cx_vl_ok_133, List.forall_mem_cons.mpr ⟨cx_vl_ok_134, List.forall_mem_cons.mpr ⟨cx_vl_ok_135, List.forall_mem_cons.mpr ⟨cx_vl_ok_136, List.forall_mem_cons.mpr ⟨cx_vl_ok_137, List.forall_mem_cons.mpr ⟨cx_vl_ok_138, List.forall_mem_cons.mpr ⟨cx_vl_ok_139, List.forall_mem_cons.mpr ⟨cx_vl_ok_140, List.forall_mem_cons.mpr ⟨cx_vl_ok_141, List.forall_mem_cons.mpr ⟨cx_vl_ok_142, List.forall_mem_cons.mpr ⟨cx_vl_ok_143, List.forall_mem_cons.mpr ⟨cx_vl_ok_144, List.forall_mem_cons.mpr ⟨cx_vl_ok_145, List.forall_mem_cons.mpr ⟨cx_vl_ok_146, List.forall_mem_cons.mpr ⟨cx_vl_ok_147, List.forall_mem_cons.mpr ⟨cx_vl_ok_148, List.forall_mem_cons.mpr ⟨cx_vl_ok_149, List.forall_mem_cons.mpr ⟨cx_vl_ok_150, List.forall_mem_cons.mpr ⟨cx_vl_ok_151, List.forall_mem_cons.mpr ⟨cx_vl_ok_152, List.forall_mem_cons.mpr ⟨cx_vl_ok_153, List.forall_mem_cons.mpr ⟨cx_vl_ok_154, List.forall_mem_cons.mpr ⟨cx_vl_ok_155, List.forall_mem_cons.mpr ⟨cx_vl_ok_156, List.forall_mem_cons.mpr ⟨cx_vl_ok_157, List.forall_mem_cons.mpr ⟨cx_vl_ok_158, List.forall_mem_cons.mpr ⟨cx_vl_ok_159, List.forall_mem_cons.mpr ⟨cx_vl_ok_160, List.forall_mem_cons.mpr ⟨cx_vl_ok_161, List.forall_mem_cons.mpr ⟨cx_vl_ok_162, List.forall_mem_cons.mpr ⟨cx_vl_ok_163, List.forall_mem_cons.mpr ⟨cx_vl_ok_164, List.forall_mem_cons.mpr ⟨cx_vl_ok_165, List.forall_mem_cons.mpr ⟨cx_vl_ok_166, List.forall_mem_cons.mpr ⟨cx_vl_ok_167, List.forall_mem_cons.mpr ⟨cx_vl_ok_168, List.forall_mem_cons.mpr ⟨cx_vl_ok_169, List.forall_mem_cons.mpr ⟨cx_vl_ok_170, List.forall_mem_cons.mpr ⟨cx_vl_ok_171, List.forall_mem_cons.mpr ⟨cx_vl_ok_172, List.forall_mem_cons.mpr ⟨cx_vl_ok_173, List.forall_mem_cons.mpr ⟨cx_vl_ok_174, List.forall_mem_cons.mpr ⟨cx_vl_ok_175, List.forall_mem_cons.mpr ⟨cx_vl_ok_176, List.forall_mem_cons.mpr ⟨cx_vl_ok_177, List.forall_mem_cons.mpr ⟨cx_vl_ok_178, List.forall_mem_cons.mpr ⟨cx_vl_ok_179, List.forall_mem_cons.mpr ⟨cx_vl_ok_180, List.forall_mem_cons.mpr ⟨cx_vl_ok_181, List.forall_mem_cons.mpr ⟨cx_vl_ok_182, List.forall_mem_cons.mpr ⟨cx_vl_ok_183, List.forall_mem_cons.mpr ⟨cx_vl_ok_184, List.forall_mem_cons.mpr ⟨cx_vl_ok_185, List.forall_mem_cons.mpr ⟨cx_vl_ok_186, List.forall_mem_cons.mpr ⟨cx_vl_ok_187, List.forall_mem_cons.mpr ⟨cx_vl_ok_188, List.forall_mem_cons.mpr ⟨cx_vl_ok_189, List.forall_mem_cons.mpr ⟨cx_vl_ok_190, List.forall_mem_cons.mpr ⟨cx_vl_ok_191, List.forall_mem_cons.mpr ⟨cx_vl_ok_192, List.forall_mem_cons.mpr ⟨cx_vl_ok_193, List.forall_mem_cons.mpr ⟨cx_vl_ok_194, List.forall_mem_cons.mpr ⟨cx_vl_ok_195, List.forall_mem_cons.mpr ⟨cx_vl_ok_196, List.forall_mem_cons.mpr ⟨cx_vl_ok_197, List.forall_mem_cons.mpr ⟨cx_vl_ok_198, List.forall_mem_cons.mpr ⟨cx_vl_ok_199, List.forall_mem_cons.mpr ⟨cx_vl_ok_200, List.forall_mem_cons.mpr ⟨cx_vl_ok_201, List.forall_mem_cons.mpr ⟨cx_vl_ok_202, List.forall_mem_cons.mpr ⟨cx_vl_ok_203, List.forall_mem_cons.mpr ⟨cx_vl_ok_204, List.forall_mem_cons.mpr ⟨cx_vl_ok_205, List.forall_mem_cons.mpr ⟨cx_vl_ok_206, List.forall_mem_cons.mpr ⟨cx_vl_ok_207, List.forall_mem_cons.mpr ⟨cx_vl_ok_208, List.forall_mem_cons.mpr ⟨cx_vl_ok_209, List.forall_mem_cons.mpr ⟨cx_vl_ok_210, List.forall_mem_cons.mpr ⟨cx_vl_ok_211, List.forall_mem_cons.mpr ⟨cx_vl_ok_212, List.forall_mem_cons.mpr ⟨cx_vl_ok_213, List.forall_mem_cons.mpr ⟨cx_vl_ok_214, List.forall_mem_cons.mpr ⟨cx_vl_ok_215, List.forall_mem_cons.mpr ⟨cx_vl_ok_216, List.forall_mem_cons.mpr ⟨cx_vl_ok_217, List.forall_mem_cons.mpr ⟨cx_vl_ok_218, List.forall_mem_cons.mpr ⟨cx_vl_ok_219, List.forall_mem_cons.mpr ⟨cx_vl_ok_220, List.forall_mem_cons.mpr ⟨cx_vl_ok_221, List.forall_mem_cons.mpr ⟨cx_vl_ok_222, List.forall_mem_cons.mpr ⟨cx_vl_ok_223, fun _ h => absurd h List.not_mem_nil⟩⟩⟩⟩⟩⟩⟩⟩⟩⟩⟩⟩⟩⟩⟩⟩⟩⟩⟩⟩⟩⟩⟩⟩⟩⟩⟩⟩⟩⟩⟩⟩⟩⟩⟩⟩⟩⟩⟩⟩⟩⟩⟩⟩⟩⟩⟩⟩⟩⟩⟩⟩⟩⟩⟩⟩⟩⟩⟩⟩⟩⟩⟩⟩⟩⟩⟩⟩⟩⟩⟩⟩⟩⟩⟩⟩⟩⟩⟩⟩⟩⟩⟩⟩⟩⟩⟩⟩⟩⟩⟩⟩⟩⟩⟩⟩⟩⟩⟩⟩⟩⟩⟩⟩⟩⟩⟩⟩⟩⟩⟩⟩⟩⟩⟩⟩⟩⟩⟩⟩⟩⟩⟩⟩⟩⟩⟩⟩⟩⟩⟩⟩⟩⟩⟩⟩⟩⟩⟩⟩⟩⟩⟩⟩⟩⟩⟩⟩⟩⟩⟩⟩⟩⟩⟩⟩⟩⟩⟩⟩⟩⟩⟩⟩⟩⟩⟩⟩⟩⟩⟩⟩⟩⟩⟩⟩⟩⟩⟩⟩⟩⟩⟩⟩⟩⟩⟩⟩⟩⟩⟩⟩⟩⟩⟩⟩⟩⟩⟩⟩⟩⟩⟩⟩⟩⟩⟩⟩⟩⟩⟩⟩⟩⟩⟩⟩⟩⟩⟩⟩⟩⟩⟩⟩
def cx_SOK (q : Nat × Nat × Nat × Nat) : Prop := Cond.methodLink (cx_cn q.1) q.2.1 (cx_y (cx_m q.2.2.1)) ∈ cx_tb ∧ Cond.static (cx_y (cx_m q.2.2.1)) ∈ cx_tb ∧ Cond.initialized (cx_y (cx_m q.2.2.1)).cls ∈ cx_tb ∧ ((cx_y (cx_m q.2.2.1)).cls ≠ "java/lang/invoke/MethodHandle" ∧ (cx_y (cx_m q.2.2.1)).cls ≠ "java/lang/invoke/VarHandle" ∧ (parseMethodDescriptor (cx_y (cx_m q.2.2.1)).desc).map (fun d => d.parameters.length) = some q.2.2.2)
theorem cx_sl_ok_0 : cx_SOK (0, 87, 21, 2) := ⟨cw_745, cw_746, cw_1, pd_21⟩
theorem cx_sl_ok_1 : cx_SOK (2, 78, 60, 4) := ⟨cw_747, cw_748, cw_5, pd_60⟩
theorem cx_sl_ok_2 : cx_SOK (2, 112, 62, 2) := ⟨cw_749, cw_750, cw_5, pd_62⟩
theorem cx_sl_ok_3 : cx_SOK (2, 116, 61, 6) := ⟨cw_751, cw_752, cw_5, pd_61⟩
theorem cx_sl_ok_4 : cx_SOK (3, 34, 76, 2) := ⟨cw_753, cw_754, cw_7, pd_76⟩
theorem cx_sl_ok_5 : cx_SOK (3, 42, 77, 1) := ⟨cw_755, cw_756, cw_7, pd_77⟩
theorem cx_sl_ok_6 : cx_SOK (3, 45, 78, 2) := ⟨cw_757, cw_758, cw_7, pd_78⟩
theorem cx_sl_ok_7 : cx_SOK (3, 48, 79, 2) := ⟨cw_759, cw_760, cw_7, pd_79⟩
theorem cx_sl_ok_8 : cx_SOK (3, 51, 80, 3) := ⟨cw_761, cw_762, cw_7, pd_80⟩
theorem cx_sl_ok_9 : cx_SOK (4, 118, 203, 2) := ⟨cw_763, cw_764, cw_765, pd_203⟩
theorem cx_sl_ok_10 : cx_SOK (6, 36, 203, 2) := ⟨cw_766, cw_764, cw_765, pd_203⟩
theorem cx_sl_ok_11 : cx_SOK (8, 162, 146, 2) := ⟨cw_767, cw_768, cw_17, pd_146⟩
theorem cx_sl_ok_12 : cx_SOK (8, 197, 158, 1) := ⟨cw_769, cw_770, cw_17, pd_158⟩
set_option maxRecDepth 100000 in
theorem cx_sl_ok : ∀ q ∈ cx_sl, cx_SOK q := List.forall_mem_cons.mpr ⟨cx_sl_ok_0, List.forall_mem_cons.mpr ⟨cx_sl_ok_1, List.forall_mem_cons.mpr ⟨cx_sl_ok_2, List.forall_mem_cons.mpr ⟨cx_sl_ok_3, List.forall_mem_cons.mpr ⟨cx_sl_ok_4, List.forall_mem_cons.mpr ⟨cx_sl_ok_5, List.forall_mem_cons.mpr ⟨cx_sl_ok_6, List.forall_mem_cons.mpr ⟨cx_sl_ok_7, List.forall_mem_cons.mpr ⟨cx_sl_ok_8, List.forall_mem_cons.mpr ⟨cx_sl_ok_9, List.forall_mem_cons.mpr ⟨cx_sl_ok_10, List.forall_mem_cons.mpr ⟨cx_sl_ok_11, List.forall_mem_cons.mpr ⟨cx_sl_ok_12, fun _ h => absurd h List.not_mem_nil⟩⟩⟩⟩⟩⟩⟩⟩⟩⟩⟩⟩⟩
def cx_POK (q : Nat × Nat × Nat × Nat) : Prop := Cond.methodLink (cx_cn q.1) q.2.1 (cx_y (cx_m q.2.2.1)) ∈ cx_tb ∧ Cond.instanceMethod (cx_y (cx_m q.2.2.1)) ∈ cx_tb ∧ Cond.initialized (cx_y (cx_m q.2.2.1)).cls ∈ cx_tb ∧ (cx_y (cx_m q.2.2.1)).name = "<init>" ∧ cx_r (cx_m q.2.2.1) = none ∧ ((cx_y (cx_m q.2.2.1)).cls ≠ "java/lang/invoke/MethodHandle" ∧ (cx_y (cx_m q.2.2.1)).cls ≠ "java/lang/invoke/VarHandle" ∧ (parseMethodDescriptor (cx_y (cx_m q.2.2.1)).desc).map (fun d => d.parameters.length) = some q.2.2.2)
theorem cx_pl_ok_0 : cx_POK (0, 9, 23, 0) := ⟨cw_771, cw_772, cw_3, rfl, rfl, pd_23⟩
theorem cx_pl_ok_1 : cx_POK (0, 18, 40, 1) := ⟨cw_773, cw_774, cw_5, rfl, rfl, pd_40⟩
theorem cx_pl_ok_2 : cx_POK (0, 27, 65, 0) := ⟨cw_775, cw_776, cw_7, rfl, rfl, pd_65⟩
theorem cx_pl_ok_3 : cx_POK (0, 34, 81, 3) := ⟨cw_777, cw_778, cw_9, rfl, rfl, pd_81⟩
theorem cx_pl_ok_4 : cx_POK (0, 43, 103, 3) := ⟨cw_779, cw_780, cw_11, rfl, rfl, pd_103⟩
theorem cx_pl_ok_5 : cx_POK (0, 52, 117, 2) := ⟨cw_781, cw_782, cw_13, rfl, rfl, pd_117⟩
theorem cx_pl_ok_6 : cx_POK (0, 61, 131, 4) := ⟨cw_783, cw_784, cw_15, rfl, rfl, pd_131⟩
theorem cx_pl_ok_7 : cx_POK (9, 9, 0, 0) := ⟨cw_785, cw_786, cw_1, rfl, rfl, pd_0⟩
theorem cx_pl_ok_8 : cx_POK (9, 12, 140, 0) := ⟨cw_787, cw_788, cw_17, rfl, rfl, pd_140⟩
set_option maxRecDepth 100000 in
theorem cx_pl_ok : ∀ q ∈ cx_pl, cx_POK q := List.forall_mem_cons.mpr ⟨cx_pl_ok_0, List.forall_mem_cons.mpr ⟨cx_pl_ok_1, List.forall_mem_cons.mpr ⟨cx_pl_ok_2, List.forall_mem_cons.mpr ⟨cx_pl_ok_3, List.forall_mem_cons.mpr ⟨cx_pl_ok_4, List.forall_mem_cons.mpr ⟨cx_pl_ok_5, List.forall_mem_cons.mpr ⟨cx_pl_ok_6, List.forall_mem_cons.mpr ⟨cx_pl_ok_7, List.forall_mem_cons.mpr ⟨cx_pl_ok_8, fun _ h => absurd h List.not_mem_nil⟩⟩⟩⟩⟩⟩⟩⟩⟩
theorem cx_ol_ok_0 : Cond.methodLink (cx_cn 0) 1 Lib.objectInit ∈ cx_tb ∧ Cond.instanceMethod Lib.objectInit ∈ cx_tb ∧ Cond.code Lib.objectInit ⟨#[0xb1]⟩ 1 none ∈ cx_tb := ⟨cw_789, cw_790, cx_in1 (i := 20) (by decide +kernel) rfl⟩
theorem cx_ol_ok_1 : Cond.methodLink (cx_cn 1) 3 Lib.objectInit ∈ cx_tb ∧ Cond.instanceMethod Lib.objectInit ∈ cx_tb ∧ Cond.code Lib.objectInit ⟨#[0xb1]⟩ 1 none ∈ cx_tb := ⟨cw_791, cw_790, cx_in1 (i := 20) (by decide +kernel) rfl⟩
theorem cx_ol_ok_2 : Cond.methodLink (cx_cn 2) 3 Lib.objectInit ∈ cx_tb ∧ Cond.instanceMethod Lib.objectInit ∈ cx_tb ∧ Cond.code Lib.objectInit ⟨#[0xb1]⟩ 1 none ∈ cx_tb := ⟨cw_792, cw_790, cx_in1 (i := 20) (by decide +kernel) rfl⟩
theorem cx_ol_ok_3 : Cond.methodLink (cx_cn 3) 3 Lib.objectInit ∈ cx_tb ∧ Cond.instanceMethod Lib.objectInit ∈ cx_tb ∧ Cond.code Lib.objectInit ⟨#[0xb1]⟩ 1 none ∈ cx_tb := ⟨cw_793, cw_790, cx_in1 (i := 20) (by decide +kernel) rfl⟩
theorem cx_ol_ok_4 : Cond.methodLink (cx_cn 4) 3 Lib.objectInit ∈ cx_tb ∧ Cond.instanceMethod Lib.objectInit ∈ cx_tb ∧ Cond.code Lib.objectInit ⟨#[0xb1]⟩ 1 none ∈ cx_tb := ⟨cw_794, cw_790, cx_in1 (i := 20) (by decide +kernel) rfl⟩
theorem cx_ol_ok_5 : Cond.methodLink (cx_cn 5) 3 Lib.objectInit ∈ cx_tb ∧ Cond.instanceMethod Lib.objectInit ∈ cx_tb ∧ Cond.code Lib.objectInit ⟨#[0xb1]⟩ 1 none ∈ cx_tb := ⟨cw_795, cw_790, cx_in1 (i := 20) (by decide +kernel) rfl⟩
theorem cx_ol_ok_6 : Cond.methodLink (cx_cn 6) 3 Lib.objectInit ∈ cx_tb ∧ Cond.instanceMethod Lib.objectInit ∈ cx_tb ∧ Cond.code Lib.objectInit ⟨#[0xb1]⟩ 1 none ∈ cx_tb := ⟨cw_796, cw_790, cx_in1 (i := 20) (by decide +kernel) rfl⟩
theorem cx_ol_ok_7 : Cond.methodLink (cx_cn 7) 3 Lib.objectInit ∈ cx_tb ∧ Cond.instanceMethod Lib.objectInit ∈ cx_tb ∧ Cond.code Lib.objectInit ⟨#[0xb1]⟩ 1 none ∈ cx_tb := ⟨cw_797, cw_790, cx_in1 (i := 20) (by decide +kernel) rfl⟩
theorem cx_ol_ok_8 : Cond.methodLink (cx_cn 8) 1 Lib.objectInit ∈ cx_tb ∧ Cond.instanceMethod Lib.objectInit ∈ cx_tb ∧ Cond.code Lib.objectInit ⟨#[0xb1]⟩ 1 none ∈ cx_tb := ⟨cw_798, cw_790, cx_in1 (i := 20) (by decide +kernel) rfl⟩
set_option maxRecDepth 100000 in
theorem cx_ol_ok : ∀ q ∈ cx_ol, Cond.methodLink (cx_cn q.1) q.2 Lib.objectInit ∈ cx_tb ∧ Cond.instanceMethod Lib.objectInit ∈ cx_tb ∧ Cond.code Lib.objectInit ⟨#[0xb1]⟩ 1 none ∈ cx_tb := List.forall_mem_cons.mpr ⟨cx_ol_ok_0, List.forall_mem_cons.mpr ⟨cx_ol_ok_1, List.forall_mem_cons.mpr ⟨cx_ol_ok_2, List.forall_mem_cons.mpr ⟨cx_ol_ok_3, List.forall_mem_cons.mpr ⟨cx_ol_ok_4, List.forall_mem_cons.mpr ⟨cx_ol_ok_5, List.forall_mem_cons.mpr ⟨cx_ol_ok_6, List.forall_mem_cons.mpr ⟨cx_ol_ok_7, List.forall_mem_cons.mpr ⟨cx_ol_ok_8, fun _ h => absurd h List.not_mem_nil⟩⟩⟩⟩⟩⟩⟩⟩⟩
theorem cx_ma_ok_0 : Cond.methodLink (cx_cn 1) 49 Lib.Math.max.name ∈ cx_tb ∧ Cond.static Lib.Math.max.name ∈ cx_tb ∧ Cond.initialized "java/lang/Math" ∈ cx_tb ∧ Cond.code Lib.Math.max.name Lib.Math.max.code 2 (some .int) ∈ cx_tb := ⟨cw_799, cw_800, cw_801, cx_in1 (i := 386) (by decide +kernel) rfl⟩
theorem cx_ma_ok_1 : Cond.methodLink (cx_cn 6) 78 Lib.Math.max.name ∈ cx_tb ∧ Cond.static Lib.Math.max.name ∈ cx_tb ∧ Cond.initialized "java/lang/Math" ∈ cx_tb ∧ Cond.code Lib.Math.max.name Lib.Math.max.code 2 (some .int) ∈ cx_tb := ⟨cw_802, cw_800, cw_801, cx_in1 (i := 386) (by decide +kernel) rfl⟩
set_option maxRecDepth 100000 in
theorem cx_ma_ok : ∀ q ∈ cx_ma, Cond.methodLink (cx_cn q.1) q.2 Lib.Math.max.name ∈ cx_tb ∧ Cond.static Lib.Math.max.name ∈ cx_tb ∧ Cond.initialized "java/lang/Math" ∈ cx_tb ∧ Cond.code Lib.Math.max.name Lib.Math.max.code 2 (some .int) ∈ cx_tb := List.forall_mem_cons.mpr ⟨cx_ma_ok_0, List.forall_mem_cons.mpr ⟨cx_ma_ok_1, fun _ h => absurd h List.not_mem_nil⟩⟩
theorem cx_mi_ok_0 : Cond.methodLink (cx_cn 1) 43 Lib.Math.min.name ∈ cx_tb ∧ Cond.static Lib.Math.min.name ∈ cx_tb ∧ Cond.initialized "java/lang/Math" ∈ cx_tb ∧ Cond.code Lib.Math.min.name Lib.Math.min.code 2 (some .int) ∈ cx_tb := ⟨cw_803, cw_804, cw_801, cx_in1 (i := 383) (by decide +kernel) rfl⟩
set_option maxRecDepth 100000 in
theorem cx_mi_ok : ∀ q ∈ cx_mi, Cond.methodLink (cx_cn q.1) q.2 Lib.Math.min.name ∈ cx_tb ∧ Cond.static Lib.Math.min.name ∈ cx_tb ∧ Cond.initialized "java/lang/Math" ∈ cx_tb ∧ Cond.code Lib.Math.min.name Lib.Math.min.code 2 (some .int) ∈ cx_tb := List.forall_mem_cons.mpr ⟨cx_mi_ok_0, fun _ h => absurd h List.not_mem_nil⟩
theorem cx_ac_ok_0 : Cond.methodLink (cx_cn 4) 149 arraycopyName ∈ cx_tb ∧ Cond.native arraycopyName ∈ cx_tb ∧ Cond.static arraycopyName ∈ cx_tb ∧ Cond.initialized "java/lang/System" ∈ cx_tb := ⟨cw_805, cw_806, cw_807, cw_808⟩
theorem cx_ac_ok_1 : Cond.methodLink (cx_cn 6) 62 arraycopyName ∈ cx_tb ∧ Cond.native arraycopyName ∈ cx_tb ∧ Cond.static arraycopyName ∈ cx_tb ∧ Cond.initialized "java/lang/System" ∈ cx_tb := ⟨cw_809, cw_806, cw_807, cw_808⟩
set_option maxRecDepth 100000 in
theorem cx_ac_ok : ∀ q ∈ cx_ac, Cond.methodLink (cx_cn q.1) q.2 arraycopyName ∈ cx_tb ∧ Cond.native arraycopyName ∈ cx_tb ∧ Cond.static arraycopyName ∈ cx_tb ∧ Cond.initialized "java/lang/System" ∈ cx_tb := List.forall_mem_cons.mpr ⟨cx_ac_ok_0, List.forall_mem_cons.mpr ⟨cx_ac_ok_1, fun _ h => absurd h List.not_mem_nil⟩⟩
