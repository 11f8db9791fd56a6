/-! WHAT THE TABLES SAY OF THE CLASSES -/
def ClsOk (ci : Nat) (C : String) (T : u_T) (N : Nat) : Prop := ∃ ty : Nat → FieldType, (∀ k, k < N → parseFieldDescriptor (T k).2.2.1 = some (ty k)) ∧ (∀ a, a < N → ∀ b, b < N → a ≠ b → (T a).2.1 ≠ (T b).2.1) ∧ (∀ w ∈ u_ws C T N, w ∈ lw_G) ∧ Cond.instantiable C N ∈ lw_G ∧ Cond.initialized C ∈ lw_G ∧ (nfl.getD ci []).length = N ∧ ∀ (ad : Nat → Nat) (j : Nat), j < N → defaultValue (ty j) = vp_V (fvA ad (fun _ => 0) (nfl.getD ci [])) j
theorem dv_of {ad : Nat → Nat} {fs : List (Option (Option Nat))} {j : Nat} {f : Option (Option Nat)} {t : FieldType} (hf : fs[j]? = some f) (hv : defaultValue t = fv1 ad 0 f) : defaultValue t = vp_V (fvA ad (fun _ => 0) fs) j := by
  rw [hv]
  unfold vp_V fvA
  rw [List.getD_eq_getElem?_getD, List.getElem?_mapIdx, hf]
  rfl
set_option maxRecDepth 20000 in
theorem inX0 : ∀ w ∈ u_ws RX0 TX0 5, w ∈ lw_G := by
  intro w hw
  obtain ⟨k, hk, rfl⟩ := List.mem_map.mp hw
  have hk := List.mem_range.mp hk
  match k, hk with
  | 0, _ => exact lw_memG 156 rfl rfl
  | 1, _ => exact lw_memG 158 rfl rfl
  | 2, _ => exact lw_memG 160 rfl rfl
  | 3, _ => exact lw_memG 162 rfl rfl
  | 4, _ => exact lw_memG 164 rfl rfl
  | k + 5, hk => exact absurd hk (by omega)
set_option maxRecDepth 20000 in
theorem clsOk_0 : ClsOk 0 RX0 TX0 5 := by
  refine ⟨tyX0, tyX0_ok, nmX0, inX0, lw_memG 133 rfl rfl, lw_memG 68 rfl rfl, rfl, fun ad j hj => ?_⟩
  match j, hj with
  | 0, _ => exact dv_of (f := some none) rfl rfl
  | 1, _ => exact dv_of (f := some none) rfl rfl
  | 2, _ => exact dv_of (f := some none) rfl rfl
  | 3, _ => exact dv_of (f := some none) rfl rfl
  | 4, _ => exact dv_of (f := none) rfl rfl
  | j + 5, hj => exact absurd hj (by omega)
set_option maxRecDepth 20000 in
theorem inX1 : ∀ w ∈ u_ws RX1 TX1 17, w ∈ lw_G := by
  intro w hw
  obtain ⟨k, hk, rfl⟩ := List.mem_map.mp hw
  have hk := List.mem_range.mp hk
  match k, hk with
  | 0, _ => exact lw_memG 251 rfl rfl
  | 1, _ => exact lw_memG 253 rfl rfl
  | 2, _ => exact lw_memG 255 rfl rfl
  | 3, _ => exact lw_memG 257 rfl rfl
  | 4, _ => exact lw_memG 259 rfl rfl
  | 5, _ => exact lw_memG 261 rfl rfl
  | 6, _ => exact lw_memG 263 rfl rfl
  | 7, _ => exact lw_memG 265 rfl rfl
  | 8, _ => exact lw_memG 267 rfl rfl
  | 9, _ => exact lw_memG 269 rfl rfl
  | 10, _ => exact lw_memG 271 rfl rfl
  | 11, _ => exact lw_memG 273 rfl rfl
  | 12, _ => exact lw_memG 275 rfl rfl
  | 13, _ => exact lw_memG 277 rfl rfl
  | 14, _ => exact lw_memG 279 rfl rfl
  | 15, _ => exact lw_memG 281 rfl rfl
  | 16, _ => exact lw_memG 283 rfl rfl
  | k + 17, hk => exact absurd hk (by omega)
set_option maxRecDepth 20000 in
theorem clsOk_1 : ClsOk 1 RX1 TX1 17 := by
  refine ⟨tyX1, tyX1_ok, nmX1, inX1, lw_memG 227 rfl rfl, lw_memG 72 rfl rfl, rfl, fun ad j hj => ?_⟩
  match j, hj with
  | 0, _ => exact dv_of (f := some none) rfl rfl
  | 1, _ => exact dv_of (f := some none) rfl rfl
  | 2, _ => exact dv_of (f := some none) rfl rfl
  | 3, _ => exact dv_of (f := some none) rfl rfl
  | 4, _ => exact dv_of (f := some none) rfl rfl
  | 5, _ => exact dv_of (f := none) rfl rfl
  | 6, _ => exact dv_of (f := some none) rfl rfl
  | 7, _ => exact dv_of (f := some none) rfl rfl
  | 8, _ => exact dv_of (f := some none) rfl rfl
  | 9, _ => exact dv_of (f := some none) rfl rfl
  | 10, _ => exact dv_of (f := some none) rfl rfl
  | 11, _ => exact dv_of (f := some none) rfl rfl
  | 12, _ => exact dv_of (f := some none) rfl rfl
  | 13, _ => exact dv_of (f := none) rfl rfl
  | 14, _ => exact dv_of (f := none) rfl rfl
  | 15, _ => exact dv_of (f := some none) rfl rfl
  | 16, _ => exact dv_of (f := none) rfl rfl
  | j + 17, hj => exact absurd hj (by omega)
set_option maxRecDepth 20000 in
theorem inX2 : ∀ w ∈ u_ws RX2 TX2 3, w ∈ lw_G := by
  intro w hw
  obtain ⟨k, hk, rfl⟩ := List.mem_map.mp hw
  have hk := List.mem_range.mp hk
  match k, hk with
  | 0, _ => exact lw_memG 179 rfl rfl
  | 1, _ => exact lw_memG 181 rfl rfl
  | 2, _ => exact lw_memG 183 rfl rfl
  | k + 3, hk => exact absurd hk (by omega)
set_option maxRecDepth 20000 in
theorem clsOk_2 : ClsOk 2 RX2 TX2 3 := by
  refine ⟨tyX2, tyX2_ok, nmX2, inX2, lw_memG 168 rfl rfl, lw_memG 69 rfl rfl, rfl, fun ad j hj => ?_⟩
  match j, hj with
  | 0, _ => exact dv_of (f := some none) rfl rfl
  | 1, _ => exact dv_of (f := some none) rfl rfl
  | 2, _ => exact dv_of (f := none) rfl rfl
  | j + 3, hj => exact absurd hj (by omega)
set_option maxRecDepth 20000 in
theorem inX3 : ∀ w ∈ u_ws RX3 TX3 5, w ∈ lw_G := by
  intro w hw
  obtain ⟨k, hk, rfl⟩ := List.mem_map.mp hw
  have hk := List.mem_range.mp hk
  match k, hk with
  | 0, _ => exact lw_memG 215 rfl rfl
  | 1, _ => exact lw_memG 217 rfl rfl
  | 2, _ => exact lw_memG 219 rfl rfl
  | 3, _ => exact lw_memG 221 rfl rfl
  | 4, _ => exact lw_memG 223 rfl rfl
  | k + 5, hk => exact absurd hk (by omega)
set_option maxRecDepth 20000 in
theorem clsOk_3 : ClsOk 3 RX3 TX3 5 := by
  refine ⟨tyX3, tyX3_ok, nmX3, inX3, lw_memG 187 rfl rfl, lw_memG 70 rfl rfl, rfl, fun ad j hj => ?_⟩
  match j, hj with
  | 0, _ => exact dv_of (f := some none) rfl rfl
  | 1, _ => exact dv_of (f := some none) rfl rfl
  | 2, _ => exact dv_of (f := some none) rfl rfl
  | 3, _ => exact dv_of (f := none) rfl rfl
  | 4, _ => exact dv_of (f := none) rfl rfl
  | j + 5, hj => exact absurd hj (by omega)
set_option maxRecDepth 20000 in
theorem inX4 : ∀ w ∈ u_ws RX4 TX4 4, w ∈ lw_G := by
  intro w hw
  obtain ⟨k, hk, rfl⟩ := List.mem_map.mp hw
  have hk := List.mem_range.mp hk
  match k, hk with
  | 0, _ => exact lw_memG 122 rfl rfl
  | 1, _ => exact lw_memG 124 rfl rfl
  | 2, _ => exact lw_memG 126 rfl rfl
  | 3, _ => exact lw_memG 128 rfl rfl
  | k + 4, hk => exact absurd hk (by omega)
set_option maxRecDepth 20000 in
theorem clsOk_4 : ClsOk 4 RX4 TX4 4 := by
  refine ⟨tyX4, tyX4_ok, nmX4, inX4, lw_memG 88 rfl rfl, lw_memG 67 rfl rfl, rfl, fun ad j hj => ?_⟩
  match j, hj with
  | 0, _ => exact dv_of (f := some none) rfl rfl
  | 1, _ => exact dv_of (f := some none) rfl rfl
  | 2, _ => exact dv_of (f := some none) rfl rfl
  | 3, _ => exact dv_of (f := some none) rfl rfl
  | j + 4, hj => exact absurd hj (by omega)
set_option maxRecDepth 20000 in
theorem inX5 : ∀ w ∈ u_ws RX5 TX5 14, w ∈ lw_G := by
  intro w hw
  obtain ⟨k, hk, rfl⟩ := List.mem_map.mp hw
  have hk := List.mem_range.mp hk
  match k, hk with
  | 0, _ => exact lw_memG 366 rfl rfl
  | 1, _ => exact lw_memG 368 rfl rfl
  | 2, _ => exact lw_memG 370 rfl rfl
  | 3, _ => exact lw_memG 372 rfl rfl
  | 4, _ => exact lw_memG 374 rfl rfl
  | 5, _ => exact lw_memG 376 rfl rfl
  | 6, _ => exact lw_memG 378 rfl rfl
  | 7, _ => exact lw_memG 380 rfl rfl
  | 8, _ => exact lw_memG 382 rfl rfl
  | 9, _ => exact lw_memG 384 rfl rfl
  | 10, _ => exact lw_memG 386 rfl rfl
  | 11, _ => exact lw_memG 388 rfl rfl
  | 12, _ => exact lw_memG 390 rfl rfl
  | 13, _ => exact lw_memG 392 rfl rfl
  | k + 14, hk => exact absurd hk (by omega)
set_option maxRecDepth 20000 in
theorem clsOk_5 : ClsOk 5 RX5 TX5 14 := by
  refine ⟨tyX5, tyX5_ok, nmX5, inX5, lw_memG 341 rfl rfl, lw_memG 74 rfl rfl, rfl, fun ad j hj => ?_⟩
  match j, hj with
  | 0, _ => exact dv_of (f := some none) rfl rfl
  | 1, _ => exact dv_of (f := some none) rfl rfl
  | 2, _ => exact dv_of (f := some none) rfl rfl
  | 3, _ => exact dv_of (f := none) rfl rfl
  | 4, _ => exact dv_of (f := none) rfl rfl
  | 5, _ => exact dv_of (f := some none) rfl rfl
  | 6, _ => exact dv_of (f := some none) rfl rfl
  | 7, _ => exact dv_of (f := some none) rfl rfl
  | 8, _ => exact dv_of (f := none) rfl rfl
  | 9, _ => exact dv_of (f := none) rfl rfl
  | 10, _ => exact dv_of (f := none) rfl rfl
  | 11, _ => exact dv_of (f := none) rfl rfl
  | 12, _ => exact dv_of (f := none) rfl rfl
  | 13, _ => exact dv_of (f := some none) rfl rfl
  | j + 14, hj => exact absurd hj (by omega)
set_option maxRecDepth 20000 in
theorem inX6 : ∀ w ∈ u_ws RX6 TX6 3, w ∈ lw_G := by
  intro w hw
  obtain ⟨k, hk, rfl⟩ := List.mem_map.mp hw
  have hk := List.mem_range.mp hk
  match k, hk with
  | 0, _ => exact lw_memG 201 rfl rfl
  | 1, _ => exact lw_memG 203 rfl rfl
  | 2, _ => exact lw_memG 205 rfl rfl
  | k + 3, hk => exact absurd hk (by omega)
set_option maxRecDepth 20000 in
theorem clsOk_6 : ClsOk 6 RX6 TX6 3 := by
  refine ⟨tyX6, tyX6_ok, nmX6, inX6, lw_memG 193 rfl rfl, lw_memG 71 rfl rfl, rfl, fun ad j hj => ?_⟩
  match j, hj with
  | 0, _ => exact dv_of (f := some none) rfl rfl
  | 1, _ => exact dv_of (f := some none) rfl rfl
  | 2, _ => exact dv_of (f := some none) rfl rfl
  | j + 3, hj => exact absurd hj (by omega)
set_option maxRecDepth 20000 in
theorem inX7 : ∀ w ∈ u_ws RX7 TX7 12, w ∈ lw_G := by
  intro w hw
  obtain ⟨k, hk, rfl⟩ := List.mem_map.mp hw
  have hk := List.mem_range.mp hk
  match k, hk with
  | 0, _ => exact lw_memG 315 rfl rfl
  | 1, _ => exact lw_memG 317 rfl rfl
  | 2, _ => exact lw_memG 319 rfl rfl
  | 3, _ => exact lw_memG 321 rfl rfl
  | 4, _ => exact lw_memG 323 rfl rfl
  | 5, _ => exact lw_memG 325 rfl rfl
  | 6, _ => exact lw_memG 327 rfl rfl
  | 7, _ => exact lw_memG 329 rfl rfl
  | 8, _ => exact lw_memG 331 rfl rfl
  | 9, _ => exact lw_memG 333 rfl rfl
  | 10, _ => exact lw_memG 335 rfl rfl
  | 11, _ => exact lw_memG 337 rfl rfl
  | k + 12, hk => exact absurd hk (by omega)
set_option maxRecDepth 20000 in
theorem clsOk_7 : ClsOk 7 RX7 TX7 12 := by
  refine ⟨tyX7, tyX7_ok, nmX7, inX7, lw_memG 287 rfl rfl, lw_memG 73 rfl rfl, rfl, fun ad j hj => ?_⟩
  match j, hj with
  | 0, _ => exact dv_of (f := some none) rfl rfl
  | 1, _ => exact dv_of (f := some none) rfl rfl
  | 2, _ => exact dv_of (f := some none) rfl rfl
  | 3, _ => exact dv_of (f := some none) rfl rfl
  | 4, _ => exact dv_of (f := some none) rfl rfl
  | 5, _ => exact dv_of (f := some none) rfl rfl
  | 6, _ => exact dv_of (f := some none) rfl rfl
  | 7, _ => exact dv_of (f := some none) rfl rfl
  | 8, _ => exact dv_of (f := none) rfl rfl
  | 9, _ => exact dv_of (f := none) rfl rfl
  | 10, _ => exact dv_of (f := none) rfl rfl
  | 11, _ => exact dv_of (f := none) rfl rfl
  | j + 12, hj => exact absurd hj (by omega)
set_option maxRecDepth 20000 in
theorem inX8 : ∀ w ∈ u_ws RX8 TX8 11, w ∈ lw_G := by
  intro w hw
  obtain ⟨k, hk, rfl⟩ := List.mem_map.mp hw
  have hk := List.mem_range.mp hk
  match k, hk with
  | 0, _ => exact lw_memG 432 rfl rfl
  | 1, _ => exact lw_memG 434 rfl rfl
  | 2, _ => exact lw_memG 436 rfl rfl
  | 3, _ => exact lw_memG 438 rfl rfl
  | 4, _ => exact lw_memG 440 rfl rfl
  | 5, _ => exact lw_memG 442 rfl rfl
  | 6, _ => exact lw_memG 444 rfl rfl
  | 7, _ => exact lw_memG 446 rfl rfl
  | 8, _ => exact lw_memG 448 rfl rfl
  | 9, _ => exact lw_memG 450 rfl rfl
  | 10, _ => exact lw_memG 452 rfl rfl
  | k + 11, hk => exact absurd hk (by omega)
set_option maxRecDepth 20000 in
theorem clsOk_8 : ClsOk 8 RX8 TX8 11 := by
  refine ⟨tyX8, tyX8_ok, nmX8, inX8, lw_memG 80 rfl rfl, lw_memG 66 rfl rfl, rfl, fun ad j hj => ?_⟩
  match j, hj with
  | 0, _ => exact dv_of (f := some none) rfl rfl
  | 1, _ => exact dv_of (f := some none) rfl rfl
  | 2, _ => exact dv_of (f := some none) rfl rfl
  | 3, _ => exact dv_of (f := some none) rfl rfl
  | 4, _ => exact dv_of (f := some none) rfl rfl
  | 5, _ => exact dv_of (f := some none) rfl rfl
  | 6, _ => exact dv_of (f := some none) rfl rfl
  | 7, _ => exact dv_of (f := some none) rfl rfl
  | 8, _ => exact dv_of (f := some none) rfl rfl
  | 9, _ => exact dv_of (f := none) rfl rfl
  | 10, _ => exact dv_of (f := none) rfl rfl
  | j + 11, hj => exact absurd hj (by omega)
set_option maxRecDepth 20000 in
theorem inX9 : ∀ w ∈ u_ws RX9 TX9 42, w ∈ lw_G := by
  intro w hw
  obtain ⟨k, hk, rfl⟩ := List.mem_map.mp hw
  have hk := List.mem_range.mp hk
  match k, hk with
  | 0, _ => exact lw_memG 820 rfl rfl
  | 1, _ => exact lw_memG 822 rfl rfl
  | 2, _ => exact lw_memG 824 rfl rfl
  | 3, _ => exact lw_memG 826 rfl rfl
  | 4, _ => exact lw_memG 828 rfl rfl
  | 5, _ => exact lw_memG 830 rfl rfl
  | 6, _ => exact lw_memG 832 rfl rfl
  | 7, _ => exact lw_memG 834 rfl rfl
  | 8, _ => exact lw_memG 836 rfl rfl
  | 9, _ => exact lw_memG 838 rfl rfl
  | 10, _ => exact lw_memG 840 rfl rfl
  | 11, _ => exact lw_memG 842 rfl rfl
  | 12, _ => exact lw_memG 844 rfl rfl
  | 13, _ => exact lw_memG 846 rfl rfl
  | 14, _ => exact lw_memG 848 rfl rfl
  | 15, _ => exact lw_memG 850 rfl rfl
  | 16, _ => exact lw_memG 852 rfl rfl
  | 17, _ => exact lw_memG 854 rfl rfl
  | 18, _ => exact lw_memG 856 rfl rfl
  | 19, _ => exact lw_memG 858 rfl rfl
  | 20, _ => exact lw_memG 860 rfl rfl
  | 21, _ => exact lw_memG 862 rfl rfl
  | 22, _ => exact lw_memG 864 rfl rfl
  | 23, _ => exact lw_memG 866 rfl rfl
  | 24, _ => exact lw_memG 868 rfl rfl
  | 25, _ => exact lw_memG 870 rfl rfl
  | 26, _ => exact lw_memG 872 rfl rfl
  | 27, _ => exact lw_memG 874 rfl rfl
  | 28, _ => exact lw_memG 876 rfl rfl
  | 29, _ => exact lw_memG 878 rfl rfl
  | 30, _ => exact lw_memG 880 rfl rfl
  | 31, _ => exact lw_memG 882 rfl rfl
  | 32, _ => exact lw_memG 884 rfl rfl
  | 33, _ => exact lw_memG 886 rfl rfl
  | 34, _ => exact lw_memG 888 rfl rfl
  | 35, _ => exact lw_memG 890 rfl rfl
  | 36, _ => exact lw_memG 892 rfl rfl
  | 37, _ => exact lw_memG 894 rfl rfl
  | 38, _ => exact lw_memG 896 rfl rfl
  | 39, _ => exact lw_memG 898 rfl rfl
  | 40, _ => exact lw_memG 900 rfl rfl
  | 41, _ => exact lw_memG 902 rfl rfl
  | k + 42, hk => exact absurd hk (by omega)
set_option maxRecDepth 20000 in
theorem clsOk_9 : ClsOk 9 RX9 TX9 42 := by
  refine ⟨tyX9, tyX9_ok, nmX9, inX9, lw_memG 769 rfl rfl, lw_memG 76 rfl rfl, rfl, fun ad j hj => ?_⟩
  match j, hj with
  | 0, _ => exact dv_of (f := some none) rfl rfl
  | 1, _ => exact dv_of (f := some none) rfl rfl
  | 2, _ => exact dv_of (f := some none) rfl rfl
  | 3, _ => exact dv_of (f := some none) rfl rfl
  | 4, _ => exact dv_of (f := some none) rfl rfl
  | 5, _ => exact dv_of (f := some none) rfl rfl
  | 6, _ => exact dv_of (f := some none) rfl rfl
  | 7, _ => exact dv_of (f := some none) rfl rfl
  | 8, _ => exact dv_of (f := none) rfl rfl
  | 9, _ => exact dv_of (f := some none) rfl rfl
  | 10, _ => exact dv_of (f := some none) rfl rfl
  | 11, _ => exact dv_of (f := some none) rfl rfl
  | 12, _ => exact dv_of (f := some none) rfl rfl
  | 13, _ => exact dv_of (f := some none) rfl rfl
  | 14, _ => exact dv_of (f := some none) rfl rfl
  | 15, _ => exact dv_of (f := some none) rfl rfl
  | 16, _ => exact dv_of (f := some none) rfl rfl
  | 17, _ => exact dv_of (f := some none) rfl rfl
  | 18, _ => exact dv_of (f := some none) rfl rfl
  | 19, _ => exact dv_of (f := some none) rfl rfl
  | 20, _ => exact dv_of (f := some none) rfl rfl
  | 21, _ => exact dv_of (f := some none) rfl rfl
  | 22, _ => exact dv_of (f := none) rfl rfl
  | 23, _ => exact dv_of (f := none) rfl rfl
  | 24, _ => exact dv_of (f := none) rfl rfl
  | 25, _ => exact dv_of (f := none) rfl rfl
  | 26, _ => exact dv_of (f := none) rfl rfl
  | 27, _ => exact dv_of (f := none) rfl rfl
  | 28, _ => exact dv_of (f := none) rfl rfl
  | 29, _ => exact dv_of (f := none) rfl rfl
  | 30, _ => exact dv_of (f := some none) rfl rfl
  | 31, _ => exact dv_of (f := none) rfl rfl
  | 32, _ => exact dv_of (f := some none) rfl rfl
  | 33, _ => exact dv_of (f := some none) rfl rfl
  | 34, _ => exact dv_of (f := some none) rfl rfl
  | 35, _ => exact dv_of (f := some none) rfl rfl
  | 36, _ => exact dv_of (f := some none) rfl rfl
  | 37, _ => exact dv_of (f := none) rfl rfl
  | 38, _ => exact dv_of (f := none) rfl rfl
  | 39, _ => exact dv_of (f := none) rfl rfl
  | 40, _ => exact dv_of (f := none) rfl rfl
  | 41, _ => exact dv_of (f := none) rfl rfl
  | j + 42, hj => exact absurd hj (by omega)
theorem clsOk_all {ci : Nat} {C : String} {T : u_T} {N : Nat} (h : vwCl[ci]? = some (C, T, N)) : ClsOk ci C T N := by
  match ci, h with
  | 0, h => cases h; exact clsOk_0
  | 1, h => cases h; exact clsOk_1
  | 2, h => cases h; exact clsOk_2
  | 3, h => cases h; exact clsOk_3
  | 4, h => cases h; exact clsOk_4
  | 5, h => cases h; exact clsOk_5
  | 6, h => cases h; exact clsOk_6
  | 7, h => cases h; exact clsOk_7
  | 8, h => cases h; exact clsOk_8
  | 9, h => cases h; exact clsOk_9
  | n + 10, h => cases h
set_option maxRecDepth 20000 in
theorem ac_int : Cond.arrayClass .int ∈ lw_G := lw_memG 131 rfl rfl
set_option maxRecDepth 20000 in
theorem ac_long : Cond.arrayClass .long ∈ lw_G := lw_memG 905 rfl rfl
set_option maxRecDepth 20000 in
theorem oi_inst : Cond.instanceMethod objectInit ∈ lw_G := lw_memG 85 rfl rfl
set_option maxRecDepth 20000 in
theorem oi_code : Cond.code objectInit ⟨#[0xb1]⟩ 1 none ∈ lw_G := lw_memG 86 rfl rfl
