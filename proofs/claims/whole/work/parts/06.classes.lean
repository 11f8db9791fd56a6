/-! WHAT THE TABLES SAY OF THE CLASSES -/
def ClsOk (ci : Nat) (C : String) (T : u_T) (N : Nat) : Prop := ∃ ty : Nat → FieldType, (∀ k, k < N → parseFieldDescriptor (T k).2.2.1 = some (ty k)) ∧ (∀ a, a < N → ∀ b, b < N → a ≠ b → (T a).2.1 ≠ (T b).2.1) ∧ (∀ w ∈ u_ws C T N, w ∈ lw_G) ∧ Cond.instantiable C N ∈ lw_G ∧ Cond.initialized C ∈ lw_G ∧ (nfl.getD ci []).length = N ∧ ∀ (ad : Nat → Nat) (j : Nat), j < N → defaultValue (ty j) = vp_V (fvA ad (fun _ => 0) (nfl.getD ci [])) j
theorem dv_of {ad : Nat → Nat} {fs : List (Option (Option Nat))} {j : Nat} {f : Option (Option Nat)} {t : FieldType} (hf : fs[j]? = some f) (hv : defaultValue t = fv1 ad 0 f) : defaultValue t = vp_V (fvA ad (fun _ => 0) fs) j := by
  rw [hv]
  unfold vp_V fvA
  rw [List.getD_eq_getElem?_getD, List.getElem?_mapIdx, hf]
  rfl
set_option maxRecDepth 20000 in
theorem inX0 : ∀ w ∈ u_ws RX0 TX0 5, w ∈ lw_G := by
  intro w hw
  obtain ⟨k, hk, rfl⟩ := List.mem_map.mp hw
  have hk := List.mem_range.mp hk
  match k, hk with
  | 0, _ => exact lw_m1 91 rfl rfl
  | 1, _ => exact lw_m1 93 rfl rfl
  | 2, _ => exact lw_m1 95 rfl rfl
  | 3, _ => exact lw_m1 97 rfl rfl
  | 4, _ => exact lw_m1 99 rfl rfl
  | k + 5, hk => exact absurd hk (by omega)
set_option maxRecDepth 20000 in
theorem clsOk_0 : ClsOk 0 RX0 TX0 5 := by
  refine ⟨tyX0, tyX0_ok, nmX0, inX0, lw_m1 68 rfl rfl, lw_m1 3 rfl rfl, rfl, fun ad j hj => ?_⟩
  match j, hj with
  | 0, _ => exact dv_of (f := some none) rfl rfl
  | 1, _ => exact dv_of (f := some none) rfl rfl
  | 2, _ => exact dv_of (f := some none) rfl rfl
  | 3, _ => exact dv_of (f := some none) rfl rfl
  | 4, _ => exact dv_of (f := none) rfl rfl
  | j + 5, hj => exact absurd hj (by omega)
set_option maxRecDepth 20000 in
theorem inX1 : ∀ w ∈ u_ws RX1 TX1 17, w ∈ lw_G := by
  intro w hw
  obtain ⟨k, hk, rfl⟩ := List.mem_map.mp hw
  have hk := List.mem_range.mp hk
  match k, hk with
  | 0, _ => exact lw_m1 186 rfl rfl
  | 1, _ => exact lw_m1 188 rfl rfl
  | 2, _ => exact lw_m1 190 rfl rfl
  | 3, _ => exact lw_m1 192 rfl rfl
  | 4, _ => exact lw_m1 194 rfl rfl
  | 5, _ => exact lw_m1 196 rfl rfl
  | 6, _ => exact lw_m1 198 rfl rfl
  | 7, _ => exact lw_m1 200 rfl rfl
  | 8, _ => exact lw_m1 202 rfl rfl
  | 9, _ => exact lw_m1 204 rfl rfl
  | 10, _ => exact lw_m1 206 rfl rfl
  | 11, _ => exact lw_m1 208 rfl rfl
  | 12, _ => exact lw_m1 210 rfl rfl
  | 13, _ => exact lw_m1 212 rfl rfl
  | 14, _ => exact lw_m1 214 rfl rfl
  | 15, _ => exact lw_m1 216 rfl rfl
  | 16, _ => exact lw_m1 218 rfl rfl
  | k + 17, hk => exact absurd hk (by omega)
set_option maxRecDepth 20000 in
theorem clsOk_1 : ClsOk 1 RX1 TX1 17 := by
  refine ⟨tyX1, tyX1_ok, nmX1, inX1, lw_m1 162 rfl rfl, lw_m1 7 rfl rfl, rfl, fun ad j hj => ?_⟩
  match j, hj with
  | 0, _ => exact dv_of (f := some none) rfl rfl
  | 1, _ => exact dv_of (f := some none) rfl rfl
  | 2, _ => exact dv_of (f := some none) rfl rfl
  | 3, _ => exact dv_of (f := some none) rfl rfl
  | 4, _ => exact dv_of (f := some none) rfl rfl
  | 5, _ => exact dv_of (f := none) rfl rfl
  | 6, _ => exact dv_of (f := some none) rfl rfl
  | 7, _ => exact dv_of (f := some none) rfl rfl
  | 8, _ => exact dv_of (f := some none) rfl rfl
  | 9, _ => exact dv_of (f := some none) rfl rfl
  | 10, _ => exact dv_of (f := some none) rfl rfl
  | 11, _ => exact dv_of (f := some none) rfl rfl
  | 12, _ => exact dv_of (f := some none) rfl rfl
  | 13, _ => exact dv_of (f := none) rfl rfl
  | 14, _ => exact dv_of (f := none) rfl rfl
  | 15, _ => exact dv_of (f := some none) rfl rfl
  | 16, _ => exact dv_of (f := none) rfl rfl
  | j + 17, hj => exact absurd hj (by omega)
set_option maxRecDepth 20000 in
theorem inX2 : ∀ w ∈ u_ws RX2 TX2 3, w ∈ lw_G := by
  intro w hw
  obtain ⟨k, hk, rfl⟩ := List.mem_map.mp hw
  have hk := List.mem_range.mp hk
  match k, hk with
  | 0, _ => exact lw_m1 114 rfl rfl
  | 1, _ => exact lw_m1 116 rfl rfl
  | 2, _ => exact lw_m1 118 rfl rfl
  | k + 3, hk => exact absurd hk (by omega)
set_option maxRecDepth 20000 in
theorem clsOk_2 : ClsOk 2 RX2 TX2 3 := by
  refine ⟨tyX2, tyX2_ok, nmX2, inX2, lw_m1 103 rfl rfl, lw_m1 4 rfl rfl, rfl, fun ad j hj => ?_⟩
  match j, hj with
  | 0, _ => exact dv_of (f := some none) rfl rfl
  | 1, _ => exact dv_of (f := some none) rfl rfl
  | 2, _ => exact dv_of (f := none) rfl rfl
  | j + 3, hj => exact absurd hj (by omega)
set_option maxRecDepth 20000 in
theorem inX3 : ∀ w ∈ u_ws RX3 TX3 5, w ∈ lw_G := by
  intro w hw
  obtain ⟨k, hk, rfl⟩ := List.mem_map.mp hw
  have hk := List.mem_range.mp hk
  match k, hk with
  | 0, _ => exact lw_m1 150 rfl rfl
  | 1, _ => exact lw_m1 152 rfl rfl
  | 2, _ => exact lw_m1 154 rfl rfl
  | 3, _ => exact lw_m1 156 rfl rfl
  | 4, _ => exact lw_m1 158 rfl rfl
  | k + 5, hk => exact absurd hk (by omega)
set_option maxRecDepth 20000 in
theorem clsOk_3 : ClsOk 3 RX3 TX3 5 := by
  refine ⟨tyX3, tyX3_ok, nmX3, inX3, lw_m1 122 rfl rfl, lw_m1 5 rfl rfl, rfl, fun ad j hj => ?_⟩
  match j, hj with
  | 0, _ => exact dv_of (f := some none) rfl rfl
  | 1, _ => exact dv_of (f := some none) rfl rfl
  | 2, _ => exact dv_of (f := some none) rfl rfl
  | 3, _ => exact dv_of (f := none) rfl rfl
  | 4, _ => exact dv_of (f := none) rfl rfl
  | j + 5, hj => exact absurd hj (by omega)
set_option maxRecDepth 20000 in
theorem inX4 : ∀ w ∈ u_ws RX4 TX4 4, w ∈ lw_G := by
  intro w hw
  obtain ⟨k, hk, rfl⟩ := List.mem_map.mp hw
  have hk := List.mem_range.mp hk
  match k, hk with
  | 0, _ => exact lw_m1 57 rfl rfl
  | 1, _ => exact lw_m1 59 rfl rfl
  | 2, _ => exact lw_m1 61 rfl rfl
  | 3, _ => exact lw_m1 63 rfl rfl
  | k + 4, hk => exact absurd hk (by omega)
set_option maxRecDepth 20000 in
theorem clsOk_4 : ClsOk 4 RX4 TX4 4 := by
  refine ⟨tyX4, tyX4_ok, nmX4, inX4, lw_m1 23 rfl rfl, lw_m1 2 rfl rfl, rfl, fun ad j hj => ?_⟩
  match j, hj with
  | 0, _ => exact dv_of (f := some none) rfl rfl
  | 1, _ => exact dv_of (f := some none) rfl rfl
  | 2, _ => exact dv_of (f := some none) rfl rfl
  | 3, _ => exact dv_of (f := some none) rfl rfl
  | j + 4, hj => exact absurd hj (by omega)
set_option maxRecDepth 20000 in
theorem inX5 : ∀ w ∈ u_ws RX5 TX5 14, w ∈ lw_G := by
  intro w hw
  obtain ⟨k, hk, rfl⟩ := List.mem_map.mp hw
  have hk := List.mem_range.mp hk
  match k, hk with
  | 0, _ => exact lw_m2 61 rfl rfl
  | 1, _ => exact lw_m2 63 rfl rfl
  | 2, _ => exact lw_m2 65 rfl rfl
  | 3, _ => exact lw_m2 67 rfl rfl
  | 4, _ => exact lw_m2 69 rfl rfl
  | 5, _ => exact lw_m2 71 rfl rfl
  | 6, _ => exact lw_m2 73 rfl rfl
  | 7, _ => exact lw_m2 75 rfl rfl
  | 8, _ => exact lw_m2 77 rfl rfl
  | 9, _ => exact lw_m2 79 rfl rfl
  | 10, _ => exact lw_m2 81 rfl rfl
  | 11, _ => exact lw_m2 83 rfl rfl
  | 12, _ => exact lw_m2 85 rfl rfl
  | 13, _ => exact lw_m2 87 rfl rfl
  | k + 14, hk => exact absurd hk (by omega)
set_option maxRecDepth 20000 in
theorem clsOk_5 : ClsOk 5 RX5 TX5 14 := by
  refine ⟨tyX5, tyX5_ok, nmX5, inX5, lw_m2 36 rfl rfl, lw_m1 9 rfl rfl, rfl, fun ad j hj => ?_⟩
  match j, hj with
  | 0, _ => exact dv_of (f := some none) rfl rfl
  | 1, _ => exact dv_of (f := some none) rfl rfl
  | 2, _ => exact dv_of (f := some none) rfl rfl
  | 3, _ => exact dv_of (f := none) rfl rfl
  | 4, _ => exact dv_of (f := none) rfl rfl
  | 5, _ => exact dv_of (f := some none) rfl rfl
  | 6, _ => exact dv_of (f := some none) rfl rfl
  | 7, _ => exact dv_of (f := some none) rfl rfl
  | 8, _ => exact dv_of (f := none) rfl rfl
  | 9, _ => exact dv_of (f := none) rfl rfl
  | 10, _ => exact dv_of (f := none) rfl rfl
  | 11, _ => exact dv_of (f := none) rfl rfl
  | 12, _ => exact dv_of (f := none) rfl rfl
  | 13, _ => exact dv_of (f := some none) rfl rfl
  | j + 14, hj => exact absurd hj (by omega)
set_option maxRecDepth 20000 in
theorem inX6 : ∀ w ∈ u_ws RX6 TX6 3, w ∈ lw_G := by
  intro w hw
  obtain ⟨k, hk, rfl⟩ := List.mem_map.mp hw
  have hk := List.mem_range.mp hk
  match k, hk with
  | 0, _ => exact lw_m1 136 rfl rfl
  | 1, _ => exact lw_m1 138 rfl rfl
  | 2, _ => exact lw_m1 140 rfl rfl
  | k + 3, hk => exact absurd hk (by omega)
set_option maxRecDepth 20000 in
theorem clsOk_6 : ClsOk 6 RX6 TX6 3 := by
  refine ⟨tyX6, tyX6_ok, nmX6, inX6, lw_m1 128 rfl rfl, lw_m1 6 rfl rfl, rfl, fun ad j hj => ?_⟩
  match j, hj with
  | 0, _ => exact dv_of (f := some none) rfl rfl
  | 1, _ => exact dv_of (f := some none) rfl rfl
  | 2, _ => exact dv_of (f := some none) rfl rfl
  | j + 3, hj => exact absurd hj (by omega)
set_option maxRecDepth 20000 in
theorem inX7 : ∀ w ∈ u_ws RX7 TX7 12, w ∈ lw_G := by
  intro w hw
  obtain ⟨k, hk, rfl⟩ := List.mem_map.mp hw
  have hk := List.mem_range.mp hk
  match k, hk with
  | 0, _ => exact lw_m2 10 rfl rfl
  | 1, _ => exact lw_m2 12 rfl rfl
  | 2, _ => exact lw_m2 14 rfl rfl
  | 3, _ => exact lw_m2 16 rfl rfl
  | 4, _ => exact lw_m2 18 rfl rfl
  | 5, _ => exact lw_m2 20 rfl rfl
  | 6, _ => exact lw_m2 22 rfl rfl
  | 7, _ => exact lw_m2 24 rfl rfl
  | 8, _ => exact lw_m2 26 rfl rfl
  | 9, _ => exact lw_m2 28 rfl rfl
  | 10, _ => exact lw_m2 30 rfl rfl
  | 11, _ => exact lw_m2 32 rfl rfl
  | k + 12, hk => exact absurd hk (by omega)
set_option maxRecDepth 20000 in
theorem clsOk_7 : ClsOk 7 RX7 TX7 12 := by
  refine ⟨tyX7, tyX7_ok, nmX7, inX7, lw_m1 222 rfl rfl, lw_m1 8 rfl rfl, rfl, fun ad j hj => ?_⟩
  match j, hj with
  | 0, _ => exact dv_of (f := some none) rfl rfl
  | 1, _ => exact dv_of (f := some none) rfl rfl
  | 2, _ => exact dv_of (f := some none) rfl rfl
  | 3, _ => exact dv_of (f := some none) rfl rfl
  | 4, _ => exact dv_of (f := some none) rfl rfl
  | 5, _ => exact dv_of (f := some none) rfl rfl
  | 6, _ => exact dv_of (f := some none) rfl rfl
  | 7, _ => exact dv_of (f := some none) rfl rfl
  | 8, _ => exact dv_of (f := none) rfl rfl
  | 9, _ => exact dv_of (f := none) rfl rfl
  | 10, _ => exact dv_of (f := none) rfl rfl
  | 11, _ => exact dv_of (f := none) rfl rfl
  | j + 12, hj => exact absurd hj (by omega)
set_option maxRecDepth 20000 in
theorem inX8 : ∀ w ∈ u_ws RX8 TX8 11, w ∈ lw_G := by
  intro w hw
  obtain ⟨k, hk, rfl⟩ := List.mem_map.mp hw
  have hk := List.mem_range.mp hk
  match k, hk with
  | 0, _ => exact lw_m2 127 rfl rfl
  | 1, _ => exact lw_m2 129 rfl rfl
  | 2, _ => exact lw_m2 131 rfl rfl
  | 3, _ => exact lw_m2 133 rfl rfl
  | 4, _ => exact lw_m2 135 rfl rfl
  | 5, _ => exact lw_m2 137 rfl rfl
  | 6, _ => exact lw_m2 139 rfl rfl
  | 7, _ => exact lw_m2 141 rfl rfl
  | 8, _ => exact lw_m2 143 rfl rfl
  | 9, _ => exact lw_m2 145 rfl rfl
  | 10, _ => exact lw_m2 147 rfl rfl
  | k + 11, hk => exact absurd hk (by omega)
set_option maxRecDepth 20000 in
theorem clsOk_8 : ClsOk 8 RX8 TX8 11 := by
  refine ⟨tyX8, tyX8_ok, nmX8, inX8, lw_m1 15 rfl rfl, lw_m1 1 rfl rfl, rfl, fun ad j hj => ?_⟩
  match j, hj with
  | 0, _ => exact dv_of (f := some none) rfl rfl
  | 1, _ => exact dv_of (f := some none) rfl rfl
  | 2, _ => exact dv_of (f := some none) rfl rfl
  | 3, _ => exact dv_of (f := some none) rfl rfl
  | 4, _ => exact dv_of (f := some none) rfl rfl
  | 5, _ => exact dv_of (f := some none) rfl rfl
  | 6, _ => exact dv_of (f := some none) rfl rfl
  | 7, _ => exact dv_of (f := some none) rfl rfl
  | 8, _ => exact dv_of (f := some none) rfl rfl
  | 9, _ => exact dv_of (f := none) rfl rfl
  | 10, _ => exact dv_of (f := none) rfl rfl
  | j + 11, hj => exact absurd hj (by omega)
set_option maxRecDepth 20000 in
theorem inX9 : ∀ w ∈ u_ws RX9 TX9 42, w ∈ lw_G := by
  intro w hw
  obtain ⟨k, hk, rfl⟩ := List.mem_map.mp hw
  have hk := List.mem_range.mp hk
  match k, hk with
  | 0, _ => exact lw_m4 33 rfl rfl
  | 1, _ => exact lw_m4 35 rfl rfl
  | 2, _ => exact lw_m4 37 rfl rfl
  | 3, _ => exact lw_m4 39 rfl rfl
  | 4, _ => exact lw_m4 41 rfl rfl
  | 5, _ => exact lw_m4 43 rfl rfl
  | 6, _ => exact lw_m4 45 rfl rfl
  | 7, _ => exact lw_m4 47 rfl rfl
  | 8, _ => exact lw_m4 49 rfl rfl
  | 9, _ => exact lw_m4 51 rfl rfl
  | 10, _ => exact lw_m4 53 rfl rfl
  | 11, _ => exact lw_m4 55 rfl rfl
  | 12, _ => exact lw_m4 57 rfl rfl
  | 13, _ => exact lw_m4 59 rfl rfl
  | 14, _ => exact lw_m4 61 rfl rfl
  | 15, _ => exact lw_m4 63 rfl rfl
  | 16, _ => exact lw_m4 65 rfl rfl
  | 17, _ => exact lw_m4 67 rfl rfl
  | 18, _ => exact lw_m4 69 rfl rfl
  | 19, _ => exact lw_m4 71 rfl rfl
  | 20, _ => exact lw_m4 73 rfl rfl
  | 21, _ => exact lw_m4 75 rfl rfl
  | 22, _ => exact lw_m4 77 rfl rfl
  | 23, _ => exact lw_m4 79 rfl rfl
  | 24, _ => exact lw_m4 81 rfl rfl
  | 25, _ => exact lw_m4 83 rfl rfl
  | 26, _ => exact lw_m4 85 rfl rfl
  | 27, _ => exact lw_m4 87 rfl rfl
  | 28, _ => exact lw_m4 89 rfl rfl
  | 29, _ => exact lw_m4 91 rfl rfl
  | 30, _ => exact lw_m4 93 rfl rfl
  | 31, _ => exact lw_m4 95 rfl rfl
  | 32, _ => exact lw_m4 97 rfl rfl
  | 33, _ => exact lw_m4 99 rfl rfl
  | 34, _ => exact lw_m4 101 rfl rfl
  | 35, _ => exact lw_m4 103 rfl rfl
  | 36, _ => exact lw_m4 105 rfl rfl
  | 37, _ => exact lw_m4 107 rfl rfl
  | 38, _ => exact lw_m4 109 rfl rfl
  | 39, _ => exact lw_m4 111 rfl rfl
  | 40, _ => exact lw_m4 113 rfl rfl
  | 41, _ => exact lw_m4 115 rfl rfl
  | k + 42, hk => exact absurd hk (by omega)
set_option maxRecDepth 20000 in
theorem clsOk_9 : ClsOk 9 RX9 TX9 42 := by
  refine ⟨tyX9, tyX9_ok, nmX9, inX9, lw_m3 222 rfl rfl, lw_m1 11 rfl rfl, rfl, fun ad j hj => ?_⟩
  match j, hj with
  | 0, _ => exact dv_of (f := some none) rfl rfl
  | 1, _ => exact dv_of (f := some none) rfl rfl
  | 2, _ => exact dv_of (f := some none) rfl rfl
  | 3, _ => exact dv_of (f := some none) rfl rfl
  | 4, _ => exact dv_of (f := some none) rfl rfl
  | 5, _ => exact dv_of (f := some none) rfl rfl
  | 6, _ => exact dv_of (f := some none) rfl rfl
  | 7, _ => exact dv_of (f := some none) rfl rfl
  | 8, _ => exact dv_of (f := none) rfl rfl
  | 9, _ => exact dv_of (f := some none) rfl rfl
  | 10, _ => exact dv_of (f := some none) rfl rfl
  | 11, _ => exact dv_of (f := some none) rfl rfl
  | 12, _ => exact dv_of (f := some none) rfl rfl
  | 13, _ => exact dv_of (f := some none) rfl rfl
  | 14, _ => exact dv_of (f := some none) rfl rfl
  | 15, _ => exact dv_of (f := some none) rfl rfl
  | 16, _ => exact dv_of (f := some none) rfl rfl
  | 17, _ => exact dv_of (f := some none) rfl rfl
  | 18, _ => exact dv_of (f := some none) rfl rfl
  | 19, _ => exact dv_of (f := some none) rfl rfl
  | 20, _ => exact dv_of (f := some none) rfl rfl
  | 21, _ => exact dv_of (f := some none) rfl rfl
  | 22, _ => exact dv_of (f := none) rfl rfl
  | 23, _ => exact dv_of (f := none) rfl rfl
  | 24, _ => exact dv_of (f := none) rfl rfl
  | 25, _ => exact dv_of (f := none) rfl rfl
  | 26, _ => exact dv_of (f := none) rfl rfl
  | 27, _ => exact dv_of (f := none) rfl rfl
  | 28, _ => exact dv_of (f := none) rfl rfl
  | 29, _ => exact dv_of (f := none) rfl rfl
  | 30, _ => exact dv_of (f := some none) rfl rfl
  | 31, _ => exact dv_of (f := none) rfl rfl
  | 32, _ => exact dv_of (f := some none) rfl rfl
  | 33, _ => exact dv_of (f := some none) rfl rfl
  | 34, _ => exact dv_of (f := some none) rfl rfl
  | 35, _ => exact dv_of (f := some none) rfl rfl
  | 36, _ => exact dv_of (f := some none) rfl rfl
  | 37, _ => exact dv_of (f := none) rfl rfl
  | 38, _ => exact dv_of (f := none) rfl rfl
  | 39, _ => exact dv_of (f := none) rfl rfl
  | 40, _ => exact dv_of (f := none) rfl rfl
  | 41, _ => exact dv_of (f := none) rfl rfl
  | j + 42, hj => exact absurd hj (by omega)
theorem clsOk_all {ci : Nat} {C : String} {T : u_T} {N : Nat} (h : vwCl[ci]? = some (C, T, N)) : ClsOk ci C T N := by
  match ci, h with
  | 0, h => cases h; exact clsOk_0
  | 1, h => cases h; exact clsOk_1
  | 2, h => cases h; exact clsOk_2
  | 3, h => cases h; exact clsOk_3
  | 4, h => cases h; exact clsOk_4
  | 5, h => cases h; exact clsOk_5
  | 6, h => cases h; exact clsOk_6
  | 7, h => cases h; exact clsOk_7
  | 8, h => cases h; exact clsOk_8
  | 9, h => cases h; exact clsOk_9
  | n + 10, h => cases h
set_option maxRecDepth 20000 in
theorem ac_int : Cond.arrayClass .int ∈ lw_G := lw_m1 66 rfl rfl
set_option maxRecDepth 20000 in
theorem ac_long : Cond.arrayClass .long ∈ lw_G := lw_m4 118 rfl rfl
set_option maxRecDepth 20000 in
theorem oi_inst : Cond.instanceMethod objectInit ∈ lw_G := lw_m1 20 rfl rfl
set_option maxRecDepth 20000 in
theorem oi_code : Cond.code objectInit ⟨#[0xb1]⟩ 1 none ∈ lw_G := lw_m1 21 rfl rfl
