/-! facts of the made kinds -/
def zty (t : Nat) (ty : FieldType) : Prop := (t = 0 ∧ ty = .int) ∨ (t = 1 ∧ ty = .long) ∨ (t = 3 ∧ ty = .boolean) ∨ (t = 2 ∧ ((∃ n, ty = .object n) ∨ ∃ u, ty = .array u))
/-- the kind c: its name, its fields, their types -/
def zk_c (c : Nat) (C : String) (T : u_T) (ty : Nat → FieldType) : Prop := vwCl[c]? = some (C, T, (zv_fs c).length) ∧ (∀ j, j < (zv_fs c).length → (T j).1 = C) ∧ (∀ w ∈ u_ws C T (zv_fs c).length, w ∈ zv_gw) ∧ (∀ a, a < (zv_fs c).length → ∀ b, b < (zv_fs c).length → a ≠ b → (T a).2.1 ≠ (T b).2.1) ∧ (∀ j, j < (zv_fs c).length → parseFieldDescriptor (T j).2.2.1 = some (ty j)) ∧ (∀ j, j < (zv_fs c).length → zty ((zv_fs c).getD j 9) (ty j)) ∧ Cond.instantiable C (zv_fs c).length ∈ zv_gw ∧ Cond.initialized C ∈ zv_gw ∧ C = zv_cn c
theorem zw_in {w : Cond} {i : Nat} (h : lw_tbl[i]? = some w) (hg : goodWord w = true) : w ∈ zv_gw := List.mem_filter.mpr ⟨List.mem_of_getElem? h, hg⟩
theorem zk_ws0 : ∀ w ∈ u_ws RX0 TX0 4, w ∈ zv_gw := by
  intro w hw
  obtain ⟨j, hj, rfl⟩ := List.mem_map.mp hw
  have hj := List.mem_range.mp hj
  match j, hj with
  | 0, _ => exact zw_in (i := 148) (by decide +kernel) rfl
  | 1, _ => exact zw_in (i := 150) (by decide +kernel) rfl
  | 2, _ => exact zw_in (i := 152) (by decide +kernel) rfl
  | 3, _ => exact zw_in (i := 154) (by decide +kernel) rfl
  | j + 4, h => exact absurd h (by omega)
theorem zk_0 : zk_c 0 RX0 TX0 tyX0 := by
  refine ⟨rfl, fun j h => by
    match j, h with
    | 0, _ => rfl
    | 1, _ => rfl
    | 2, _ => rfl
    | 3, _ => rfl
    | j + 4, h => exact absurd h (by show ¬ j + 4 < 4; omega), zk_ws0, nmX0, tyX0_ok, fun j h => by
    match j, h with
    | 0, _ => exact Or.inr (Or.inr (Or.inr ⟨rfl, Or.inr ⟨_, rfl⟩⟩))
    | 1, _ => exact Or.inr (Or.inr (Or.inr ⟨rfl, Or.inr ⟨_, rfl⟩⟩))
    | 2, _ => exact Or.inl ⟨rfl, rfl⟩
    | 3, _ => exact Or.inl ⟨rfl, rfl⟩
    | j + 4, h => exact absurd h (by show ¬ j + 4 < 4; omega), zw_in (i := 135) (by decide +kernel) rfl, zw_in (i := 68) (by decide +kernel) rfl, rfl⟩
theorem zk_ws1 : ∀ w ∈ u_ws RX1 TX1 4, w ∈ zv_gw := by
  intro w hw
  obtain ⟨j, hj, rfl⟩ := List.mem_map.mp hw
  have hj := List.mem_range.mp hj
  match j, hj with
  | 0, _ => exact zw_in (i := 384) (by decide +kernel) rfl
  | 1, _ => exact zw_in (i := 386) (by decide +kernel) rfl
  | 2, _ => exact zw_in (i := 388) (by decide +kernel) rfl
  | 3, _ => exact zw_in (i := 390) (by decide +kernel) rfl
  | j + 4, h => exact absurd h (by omega)
theorem zk_1 : zk_c 1 RX1 TX1 tyX1 := by
  refine ⟨rfl, fun j h => by
    match j, h with
    | 0, _ => rfl
    | 1, _ => rfl
    | 2, _ => rfl
    | 3, _ => rfl
    | j + 4, h => exact absurd h (by show ¬ j + 4 < 4; omega), zk_ws1, nmX1, tyX1_ok, fun j h => by
    match j, h with
    | 0, _ => exact Or.inr (Or.inr (Or.inr ⟨rfl, Or.inr ⟨_, rfl⟩⟩))
    | 1, _ => exact Or.inr (Or.inr (Or.inr ⟨rfl, Or.inl ⟨_, rfl⟩⟩))
    | 2, _ => exact Or.inl ⟨rfl, rfl⟩
    | 3, _ => exact Or.inl ⟨rfl, rfl⟩
    | j + 4, h => exact absurd h (by show ¬ j + 4 < 4; omega), zw_in (i := 280) (by decide +kernel) rfl, zw_in (i := 73) (by decide +kernel) rfl, rfl⟩
theorem zk_ws2 : ∀ w ∈ u_ws RX2 TX2 4, w ∈ zv_gw := by
  intro w hw
  obtain ⟨j, hj, rfl⟩ := List.mem_map.mp hw
  have hj := List.mem_range.mp hj
  match j, hj with
  | 0, _ => exact zw_in (i := 326) (by decide +kernel) rfl
  | 1, _ => exact zw_in (i := 328) (by decide +kernel) rfl
  | 2, _ => exact zw_in (i := 330) (by decide +kernel) rfl
  | 3, _ => exact zw_in (i := 332) (by decide +kernel) rfl
  | j + 4, h => exact absurd h (by omega)
theorem zk_2 : zk_c 2 RX2 TX2 tyX2 := by
  refine ⟨rfl, fun j h => by
    match j, h with
    | 0, _ => rfl
    | 1, _ => rfl
    | 2, _ => rfl
    | 3, _ => rfl
    | j + 4, h => exact absurd h (by show ¬ j + 4 < 4; omega), zk_ws2, nmX2, tyX2_ok, fun j h => by
    match j, h with
    | 0, _ => exact Or.inr (Or.inr (Or.inr ⟨rfl, Or.inl ⟨_, rfl⟩⟩))
    | 1, _ => exact Or.inr (Or.inr (Or.inr ⟨rfl, Or.inl ⟨_, rfl⟩⟩))
    | 2, _ => exact Or.inr (Or.inl ⟨rfl, rfl⟩)
    | 3, _ => exact Or.inr (Or.inl ⟨rfl, rfl⟩)
    | j + 4, h => exact absurd h (by show ¬ j + 4 < 4; omega), zw_in (i := 288) (by decide +kernel) rfl, zw_in (i := 74) (by decide +kernel) rfl, rfl⟩
theorem zk_ws3 : ∀ w ∈ u_ws RX3 TX3 1, w ∈ zv_gw := by
  intro w hw
  obtain ⟨j, hj, rfl⟩ := List.mem_map.mp hw
  have hj := List.mem_range.mp hj
  match j, hj with
  | 0, _ => exact zw_in (i := 170) (by decide +kernel) rfl
  | j + 1, h => exact absurd h (by omega)
theorem zk_3 : zk_c 3 RX3 TX3 tyX3 := by
  refine ⟨rfl, fun j h => by
    match j, h with
    | 0, _ => rfl
    | j + 1, h => exact absurd h (by show ¬ j + 1 < 1; omega), zk_ws3, nmX3, tyX3_ok, fun j h => by
    match j, h with
    | 0, _ => exact Or.inr (Or.inr (Or.inr ⟨rfl, Or.inr ⟨_, rfl⟩⟩))
    | j + 1, h => exact absurd h (by show ¬ j + 1 < 1; omega), zw_in (i := 158) (by decide +kernel) rfl, zw_in (i := 69) (by decide +kernel) rfl, rfl⟩
theorem zk_ws4 : ∀ w ∈ u_ws RX4 TX4 3, w ∈ zv_gw := by
  intro w hw
  obtain ⟨j, hj, rfl⟩ := List.mem_map.mp hw
  have hj := List.mem_range.mp hj
  match j, hj with
  | 0, _ => exact zw_in (i := 117) (by decide +kernel) rfl
  | 1, _ => exact zw_in (i := 119) (by decide +kernel) rfl
  | 2, _ => exact zw_in (i := 121) (by decide +kernel) rfl
  | j + 3, h => exact absurd h (by omega)
theorem zk_4 : zk_c 4 RX4 TX4 tyX4 := by
  refine ⟨rfl, fun j h => by
    match j, h with
    | 0, _ => rfl
    | 1, _ => rfl
    | 2, _ => rfl
    | j + 3, h => exact absurd h (by show ¬ j + 3 < 3; omega), zk_ws4, nmX4, tyX4_ok, fun j h => by
    match j, h with
    | 0, _ => exact Or.inr (Or.inr (Or.inr ⟨rfl, Or.inr ⟨_, rfl⟩⟩))
    | 1, _ => exact Or.inr (Or.inr (Or.inr ⟨rfl, Or.inr ⟨_, rfl⟩⟩))
    | 2, _ => exact Or.inl ⟨rfl, rfl⟩
    | j + 3, h => exact absurd h (by show ¬ j + 3 < 3; omega), zw_in (i := 100) (by decide +kernel) rfl, zw_in (i := 67) (by decide +kernel) rfl, rfl⟩
theorem zk_ws5 : ∀ w ∈ u_ws RX5 TX5 8, w ∈ zv_gw := by
  intro w hw
  obtain ⟨j, hj, rfl⟩ := List.mem_map.mp hw
  have hj := List.mem_range.mp hj
  match j, hj with
  | 0, _ => exact zw_in (i := 358) (by decide +kernel) rfl
  | 1, _ => exact zw_in (i := 360) (by decide +kernel) rfl
  | 2, _ => exact zw_in (i := 362) (by decide +kernel) rfl
  | 3, _ => exact zw_in (i := 364) (by decide +kernel) rfl
  | 4, _ => exact zw_in (i := 366) (by decide +kernel) rfl
  | 5, _ => exact zw_in (i := 368) (by decide +kernel) rfl
  | 6, _ => exact zw_in (i := 370) (by decide +kernel) rfl
  | 7, _ => exact zw_in (i := 372) (by decide +kernel) rfl
  | j + 8, h => exact absurd h (by omega)
theorem zk_5 : zk_c 5 RX5 TX5 tyX5 := by
  refine ⟨rfl, fun j h => by
    match j, h with
    | 0, _ => rfl
    | 1, _ => rfl
    | 2, _ => rfl
    | 3, _ => rfl
    | 4, _ => rfl
    | 5, _ => rfl
    | 6, _ => rfl
    | 7, _ => rfl
    | j + 8, h => exact absurd h (by show ¬ j + 8 < 8; omega), zk_ws5, nmX5, tyX5_ok, fun j h => by
    match j, h with
    | 0, _ => exact Or.inr (Or.inr (Or.inr ⟨rfl, Or.inr ⟨_, rfl⟩⟩))
    | 1, _ => exact Or.inl ⟨rfl, rfl⟩
    | 2, _ => exact Or.inl ⟨rfl, rfl⟩
    | 3, _ => exact Or.inl ⟨rfl, rfl⟩
    | 4, _ => exact Or.inr (Or.inr (Or.inr ⟨rfl, Or.inr ⟨_, rfl⟩⟩))
    | 5, _ => exact Or.inr (Or.inr (Or.inr ⟨rfl, Or.inr ⟨_, rfl⟩⟩))
    | 6, _ => exact Or.inr (Or.inr (Or.inr ⟨rfl, Or.inr ⟨_, rfl⟩⟩))
    | 7, _ => exact Or.inr (Or.inr (Or.inr ⟨rfl, Or.inr ⟨_, rfl⟩⟩))
    | j + 8, h => exact absurd h (by show ¬ j + 8 < 8; omega), zw_in (i := 335) (by decide +kernel) rfl, zw_in (i := 76) (by decide +kernel) rfl, rfl⟩
theorem zk_ws6 : ∀ w ∈ u_ws RX6 TX6 5, w ∈ zv_gw := by
  intro w hw
  obtain ⟨j, hj, rfl⟩ := List.mem_map.mp hw
  have hj := List.mem_range.mp hj
  match j, hj with
  | 0, _ => exact zw_in (i := 186) (by decide +kernel) rfl
  | 1, _ => exact zw_in (i := 188) (by decide +kernel) rfl
  | 2, _ => exact zw_in (i := 190) (by decide +kernel) rfl
  | 3, _ => exact zw_in (i := 192) (by decide +kernel) rfl
  | 4, _ => exact zw_in (i := 194) (by decide +kernel) rfl
  | j + 5, h => exact absurd h (by omega)
theorem zk_6 : zk_c 6 RX6 TX6 tyX6 := by
  refine ⟨rfl, fun j h => by
    match j, h with
    | 0, _ => rfl
    | 1, _ => rfl
    | 2, _ => rfl
    | 3, _ => rfl
    | 4, _ => rfl
    | j + 5, h => exact absurd h (by show ¬ j + 5 < 5; omega), zk_ws6, nmX6, tyX6_ok, fun j h => by
    match j, h with
    | 0, _ => exact Or.inr (Or.inr (Or.inr ⟨rfl, Or.inr ⟨_, rfl⟩⟩))
    | 1, _ => exact Or.inr (Or.inr (Or.inr ⟨rfl, Or.inr ⟨_, rfl⟩⟩))
    | 2, _ => exact Or.inl ⟨rfl, rfl⟩
    | 3, _ => exact Or.inr (Or.inr (Or.inr ⟨rfl, Or.inr ⟨_, rfl⟩⟩))
    | 4, _ => exact Or.inl ⟨rfl, rfl⟩
    | j + 5, h => exact absurd h (by show ¬ j + 5 < 5; omega), zw_in (i := 174) (by decide +kernel) rfl, zw_in (i := 71) (by decide +kernel) rfl, rfl⟩
theorem zk_ws7 : ∀ w ∈ u_ws RX7 TX7 6, w ∈ zv_gw := by
  intro w hw
  obtain ⟨j, hj, rfl⟩ := List.mem_map.mp hw
  have hj := List.mem_range.mp hj
  match j, hj with
  | 0, _ => exact zw_in (i := 307) (by decide +kernel) rfl
  | 1, _ => exact zw_in (i := 309) (by decide +kernel) rfl
  | 2, _ => exact zw_in (i := 311) (by decide +kernel) rfl
  | 3, _ => exact zw_in (i := 313) (by decide +kernel) rfl
  | 4, _ => exact zw_in (i := 315) (by decide +kernel) rfl
  | 5, _ => exact zw_in (i := 317) (by decide +kernel) rfl
  | j + 6, h => exact absurd h (by omega)
theorem zk_7 : zk_c 7 RX7 TX7 tyX7 := by
  refine ⟨rfl, fun j h => by
    match j, h with
    | 0, _ => rfl
    | 1, _ => rfl
    | 2, _ => rfl
    | 3, _ => rfl
    | 4, _ => rfl
    | 5, _ => rfl
    | j + 6, h => exact absurd h (by show ¬ j + 6 < 6; omega), zk_ws7, nmX7, tyX7_ok, fun j h => by
    match j, h with
    | 0, _ => exact Or.inr (Or.inr (Or.inr ⟨rfl, Or.inr ⟨_, rfl⟩⟩))
    | 1, _ => exact Or.inr (Or.inr (Or.inr ⟨rfl, Or.inr ⟨_, rfl⟩⟩))
    | 2, _ => exact Or.inl ⟨rfl, rfl⟩
    | 3, _ => exact Or.inl ⟨rfl, rfl⟩
    | 4, _ => exact Or.inr (Or.inl ⟨rfl, rfl⟩)
    | 5, _ => exact Or.inr (Or.inl ⟨rfl, rfl⟩)
    | j + 6, h => exact absurd h (by show ¬ j + 6 < 6; omega), zw_in (i := 294) (by decide +kernel) rfl, zw_in (i := 75) (by decide +kernel) rfl, rfl⟩
theorem zk_ws8 : ∀ w ∈ u_ws RX8 TX8 5, w ∈ zv_gw := by
  intro w hw
  obtain ⟨j, hj, rfl⟩ := List.mem_map.mp hw
  have hj := List.mem_range.mp hj
  match j, hj with
  | 0, _ => exact zw_in (i := 404) (by decide +kernel) rfl
  | 1, _ => exact zw_in (i := 406) (by decide +kernel) rfl
  | 2, _ => exact zw_in (i := 408) (by decide +kernel) rfl
  | 3, _ => exact zw_in (i := 410) (by decide +kernel) rfl
  | 4, _ => exact zw_in (i := 412) (by decide +kernel) rfl
  | j + 5, h => exact absurd h (by omega)
theorem zk_8 : zk_c 8 RX8 TX8 tyX8 := by
  refine ⟨rfl, fun j h => by
    match j, h with
    | 0, _ => rfl
    | 1, _ => rfl
    | 2, _ => rfl
    | 3, _ => rfl
    | 4, _ => rfl
    | j + 5, h => exact absurd h (by show ¬ j + 5 < 5; omega), zk_ws8, nmX8, tyX8_ok, fun j h => by
    match j, h with
    | 0, _ => exact Or.inr (Or.inr (Or.inr ⟨rfl, Or.inr ⟨_, rfl⟩⟩))
    | 1, _ => exact Or.inl ⟨rfl, rfl⟩
    | 2, _ => exact Or.inl ⟨rfl, rfl⟩
    | 3, _ => exact Or.inr (Or.inr (Or.inr ⟨rfl, Or.inl ⟨_, rfl⟩⟩))
    | 4, _ => exact Or.inl ⟨rfl, rfl⟩
    | j + 5, h => exact absurd h (by show ¬ j + 5 < 5; omega), zw_in (i := 394) (by decide +kernel) rfl, zw_in (i := 77) (by decide +kernel) rfl, rfl⟩
theorem zk_ws9 : ∀ w ∈ u_ws RX9 TX9 8, w ∈ zv_gw := by
  intro w hw
  obtain ⟨j, hj, rfl⟩ := List.mem_map.mp hw
  have hj := List.mem_range.mp hj
  match j, hj with
  | 0, _ => exact zw_in (i := 217) (by decide +kernel) rfl
  | 1, _ => exact zw_in (i := 219) (by decide +kernel) rfl
  | 2, _ => exact zw_in (i := 221) (by decide +kernel) rfl
  | 3, _ => exact zw_in (i := 223) (by decide +kernel) rfl
  | 4, _ => exact zw_in (i := 225) (by decide +kernel) rfl
  | 5, _ => exact zw_in (i := 227) (by decide +kernel) rfl
  | 6, _ => exact zw_in (i := 229) (by decide +kernel) rfl
  | 7, _ => exact zw_in (i := 231) (by decide +kernel) rfl
  | j + 8, h => exact absurd h (by omega)
theorem zk_9 : zk_c 9 RX9 TX9 tyX9 := by
  refine ⟨rfl, fun j h => by
    match j, h with
    | 0, _ => rfl
    | 1, _ => rfl
    | 2, _ => rfl
    | 3, _ => rfl
    | 4, _ => rfl
    | 5, _ => rfl
    | 6, _ => rfl
    | 7, _ => rfl
    | j + 8, h => exact absurd h (by show ¬ j + 8 < 8; omega), zk_ws9, nmX9, tyX9_ok, fun j h => by
    match j, h with
    | 0, _ => exact Or.inr (Or.inr (Or.inr ⟨rfl, Or.inl ⟨_, rfl⟩⟩))
    | 1, _ => exact Or.inr (Or.inr (Or.inr ⟨rfl, Or.inr ⟨_, rfl⟩⟩))
    | 2, _ => exact Or.inl ⟨rfl, rfl⟩
    | 3, _ => exact Or.inr (Or.inr (Or.inr ⟨rfl, Or.inr ⟨_, rfl⟩⟩))
    | 4, _ => exact Or.inl ⟨rfl, rfl⟩
    | 5, _ => exact Or.inr (Or.inr (Or.inr ⟨rfl, Or.inl ⟨_, rfl⟩⟩))
    | 6, _ => exact Or.inr (Or.inr (Or.inr ⟨rfl, Or.inl ⟨_, rfl⟩⟩))
    | 7, _ => exact Or.inr (Or.inr (Or.inr ⟨rfl, Or.inl ⟨_, rfl⟩⟩))
    | j + 8, h => exact absurd h (by show ¬ j + 8 < 8; omega), zw_in (i := 94) (by decide +kernel) rfl, zw_in (i := 66) (by decide +kernel) rfl, rfl⟩
theorem zk_ws10 : ∀ w ∈ u_ws RX10 TX10 10, w ∈ zv_gw := by
  intro w hw
  obtain ⟨j, hj, rfl⟩ := List.mem_map.mp hw
  have hj := List.mem_range.mp hj
  match j, hj with
  | 0, _ => exact zw_in (i := 257) (by decide +kernel) rfl
  | 1, _ => exact zw_in (i := 259) (by decide +kernel) rfl
  | 2, _ => exact zw_in (i := 261) (by decide +kernel) rfl
  | 3, _ => exact zw_in (i := 263) (by decide +kernel) rfl
  | 4, _ => exact zw_in (i := 265) (by decide +kernel) rfl
  | 5, _ => exact zw_in (i := 267) (by decide +kernel) rfl
  | 6, _ => exact zw_in (i := 269) (by decide +kernel) rfl
  | 7, _ => exact zw_in (i := 271) (by decide +kernel) rfl
  | 8, _ => exact zw_in (i := 273) (by decide +kernel) rfl
  | 9, _ => exact zw_in (i := 275) (by decide +kernel) rfl
  | j + 10, h => exact absurd h (by omega)
theorem zk_10 : zk_c 10 RX10 TX10 tyX10 := by
  refine ⟨rfl, fun j h => by
    match j, h with
    | 0, _ => rfl
    | 1, _ => rfl
    | 2, _ => rfl
    | 3, _ => rfl
    | 4, _ => rfl
    | 5, _ => rfl
    | 6, _ => rfl
    | 7, _ => rfl
    | 8, _ => rfl
    | 9, _ => rfl
    | j + 10, h => exact absurd h (by show ¬ j + 10 < 10; omega), zk_ws10, nmX10, tyX10_ok, fun j h => by
    match j, h with
    | 0, _ => exact Or.inr (Or.inr (Or.inr ⟨rfl, Or.inr ⟨_, rfl⟩⟩))
    | 1, _ => exact Or.inl ⟨rfl, rfl⟩
    | 2, _ => exact Or.inr (Or.inr (Or.inr ⟨rfl, Or.inl ⟨_, rfl⟩⟩))
    | 3, _ => exact Or.inr (Or.inr (Or.inr ⟨rfl, Or.inr ⟨_, rfl⟩⟩))
    | 4, _ => exact Or.inl ⟨rfl, rfl⟩
    | 5, _ => exact Or.inl ⟨rfl, rfl⟩
    | 6, _ => exact Or.inr (Or.inr (Or.inr ⟨rfl, Or.inr ⟨_, rfl⟩⟩))
    | 7, _ => exact Or.inr (Or.inr (Or.inr ⟨rfl, Or.inr ⟨_, rfl⟩⟩))
    | 8, _ => exact Or.inr (Or.inr (Or.inr ⟨rfl, Or.inr ⟨_, rfl⟩⟩))
    | 9, _ => exact Or.inl ⟨rfl, rfl⟩
    | j + 10, h => exact absurd h (by show ¬ j + 10 < 10; omega), zw_in (i := 235) (by decide +kernel) rfl, zw_in (i := 72) (by decide +kernel) rfl, rfl⟩
theorem zk_ws11 : ∀ w ∈ u_ws RX11 TX11 8, w ∈ zv_gw := by
  intro w hw
  obtain ⟨j, hj, rfl⟩ := List.mem_map.mp hw
  have hj := List.mem_range.mp hj
  match j, hj with
  | 0, _ => exact zw_in (i := 424) (by decide +kernel) rfl
  | 1, _ => exact zw_in (i := 426) (by decide +kernel) rfl
  | 2, _ => exact zw_in (i := 428) (by decide +kernel) rfl
  | 3, _ => exact zw_in (i := 430) (by decide +kernel) rfl
  | 4, _ => exact zw_in (i := 432) (by decide +kernel) rfl
  | 5, _ => exact zw_in (i := 434) (by decide +kernel) rfl
  | 6, _ => exact zw_in (i := 436) (by decide +kernel) rfl
  | 7, _ => exact zw_in (i := 438) (by decide +kernel) rfl
  | j + 8, h => exact absurd h (by omega)
theorem zk_11 : zk_c 11 RX11 TX11 tyX11 := by
  refine ⟨rfl, fun j h => by
    match j, h with
    | 0, _ => rfl
    | 1, _ => rfl
    | 2, _ => rfl
    | 3, _ => rfl
    | 4, _ => rfl
    | 5, _ => rfl
    | 6, _ => rfl
    | 7, _ => rfl
    | j + 8, h => exact absurd h (by show ¬ j + 8 < 8; omega), zk_ws11, nmX11, tyX11_ok, fun j h => by
    match j, h with
    | 0, _ => exact Or.inr (Or.inr (Or.inr ⟨rfl, Or.inl ⟨_, rfl⟩⟩))
    | 1, _ => exact Or.inr (Or.inr (Or.inr ⟨rfl, Or.inl ⟨_, rfl⟩⟩))
    | 2, _ => exact Or.inr (Or.inr (Or.inl ⟨rfl, rfl⟩))
    | 3, _ => exact Or.inr (Or.inr (Or.inr ⟨rfl, Or.inl ⟨_, rfl⟩⟩))
    | 4, _ => exact Or.inr (Or.inr (Or.inr ⟨rfl, Or.inl ⟨_, rfl⟩⟩))
    | 5, _ => exact Or.inr (Or.inr (Or.inr ⟨rfl, Or.inl ⟨_, rfl⟩⟩))
    | 6, _ => exact Or.inr (Or.inr (Or.inr ⟨rfl, Or.inl ⟨_, rfl⟩⟩))
    | 7, _ => exact Or.inr (Or.inr (Or.inr ⟨rfl, Or.inr ⟨_, rfl⟩⟩))
    | j + 8, h => exact absurd h (by show ¬ j + 8 < 8; omega), zw_in (i := 86) (by decide +kernel) rfl, zw_in (i := 65) (by decide +kernel) rfl, rfl⟩
theorem zk_ws12 : ∀ w ∈ u_ws RX12 TX12 33, w ∈ zv_gw := by
  intro w hw
  obtain ⟨j, hj, rfl⟩ := List.mem_map.mp hw
  have hj := List.mem_range.mp hj
  match j, hj with
  | 0, _ => exact zw_in (i := 1039) (by decide +kernel) rfl
  | 1, _ => exact zw_in (i := 1041) (by decide +kernel) rfl
  | 2, _ => exact zw_in (i := 1043) (by decide +kernel) rfl
  | 3, _ => exact zw_in (i := 1045) (by decide +kernel) rfl
  | 4, _ => exact zw_in (i := 1047) (by decide +kernel) rfl
  | 5, _ => exact zw_in (i := 1049) (by decide +kernel) rfl
  | 6, _ => exact zw_in (i := 1051) (by decide +kernel) rfl
  | 7, _ => exact zw_in (i := 1053) (by decide +kernel) rfl
  | 8, _ => exact zw_in (i := 1055) (by decide +kernel) rfl
  | 9, _ => exact zw_in (i := 1057) (by decide +kernel) rfl
  | 10, _ => exact zw_in (i := 1059) (by decide +kernel) rfl
  | 11, _ => exact zw_in (i := 1061) (by decide +kernel) rfl
  | 12, _ => exact zw_in (i := 1063) (by decide +kernel) rfl
  | 13, _ => exact zw_in (i := 1065) (by decide +kernel) rfl
  | 14, _ => exact zw_in (i := 1067) (by decide +kernel) rfl
  | 15, _ => exact zw_in (i := 1069) (by decide +kernel) rfl
  | 16, _ => exact zw_in (i := 1071) (by decide +kernel) rfl
  | 17, _ => exact zw_in (i := 1073) (by decide +kernel) rfl
  | 18, _ => exact zw_in (i := 1075) (by decide +kernel) rfl
  | 19, _ => exact zw_in (i := 1077) (by decide +kernel) rfl
  | 20, _ => exact zw_in (i := 1079) (by decide +kernel) rfl
  | 21, _ => exact zw_in (i := 1081) (by decide +kernel) rfl
  | 22, _ => exact zw_in (i := 1083) (by decide +kernel) rfl
  | 23, _ => exact zw_in (i := 1085) (by decide +kernel) rfl
  | 24, _ => exact zw_in (i := 1087) (by decide +kernel) rfl
  | 25, _ => exact zw_in (i := 1089) (by decide +kernel) rfl
  | 26, _ => exact zw_in (i := 1091) (by decide +kernel) rfl
  | 27, _ => exact zw_in (i := 1093) (by decide +kernel) rfl
  | 28, _ => exact zw_in (i := 1095) (by decide +kernel) rfl
  | 29, _ => exact zw_in (i := 1097) (by decide +kernel) rfl
  | 30, _ => exact zw_in (i := 1099) (by decide +kernel) rfl
  | 31, _ => exact zw_in (i := 1101) (by decide +kernel) rfl
  | 32, _ => exact zw_in (i := 1103) (by decide +kernel) rfl
  | j + 33, h => exact absurd h (by omega)
theorem zk_12 : zk_c 12 RX12 TX12 tyX12 := by
  refine ⟨rfl, fun j h => by
    match j, h with
    | 0, _ => rfl
    | 1, _ => rfl
    | 2, _ => rfl
    | 3, _ => rfl
    | 4, _ => rfl
    | 5, _ => rfl
    | 6, _ => rfl
    | 7, _ => rfl
    | 8, _ => rfl
    | 9, _ => rfl
    | 10, _ => rfl
    | 11, _ => rfl
    | 12, _ => rfl
    | 13, _ => rfl
    | 14, _ => rfl
    | 15, _ => rfl
    | 16, _ => rfl
    | 17, _ => rfl
    | 18, _ => rfl
    | 19, _ => rfl
    | 20, _ => rfl
    | 21, _ => rfl
    | 22, _ => rfl
    | 23, _ => rfl
    | 24, _ => rfl
    | 25, _ => rfl
    | 26, _ => rfl
    | 27, _ => rfl
    | 28, _ => rfl
    | 29, _ => rfl
    | 30, _ => rfl
    | 31, _ => rfl
    | 32, _ => rfl
    | j + 33, h => exact absurd h (by show ¬ j + 33 < 33; omega), zk_ws12, nmX12, tyX12_ok, fun j h => by
    match j, h with
    | 0, _ => exact Or.inr (Or.inr (Or.inr ⟨rfl, Or.inr ⟨_, rfl⟩⟩))
    | 1, _ => exact Or.inr (Or.inr (Or.inr ⟨rfl, Or.inr ⟨_, rfl⟩⟩))
    | 2, _ => exact Or.inr (Or.inr (Or.inr ⟨rfl, Or.inr ⟨_, rfl⟩⟩))
    | 3, _ => exact Or.inr (Or.inr (Or.inl ⟨rfl, rfl⟩))
    | 4, _ => exact Or.inr (Or.inr (Or.inr ⟨rfl, Or.inr ⟨_, rfl⟩⟩))
    | 5, _ => exact Or.inr (Or.inr (Or.inr ⟨rfl, Or.inr ⟨_, rfl⟩⟩))
    | 6, _ => exact Or.inr (Or.inr (Or.inr ⟨rfl, Or.inr ⟨_, rfl⟩⟩))
    | 7, _ => exact Or.inl ⟨rfl, rfl⟩
    | 8, _ => exact Or.inl ⟨rfl, rfl⟩
    | 9, _ => exact Or.inl ⟨rfl, rfl⟩
    | 10, _ => exact Or.inl ⟨rfl, rfl⟩
    | 11, _ => exact Or.inl ⟨rfl, rfl⟩
    | 12, _ => exact Or.inl ⟨rfl, rfl⟩
    | 13, _ => exact Or.inl ⟨rfl, rfl⟩
    | 14, _ => exact Or.inl ⟨rfl, rfl⟩
    | 15, _ => exact Or.inl ⟨rfl, rfl⟩
    | 16, _ => exact Or.inl ⟨rfl, rfl⟩
    | 17, _ => exact Or.inr (Or.inr (Or.inr ⟨rfl, Or.inr ⟨_, rfl⟩⟩))
    | 18, _ => exact Or.inr (Or.inr (Or.inr ⟨rfl, Or.inr ⟨_, rfl⟩⟩))
    | 19, _ => exact Or.inr (Or.inr (Or.inr ⟨rfl, Or.inr ⟨_, rfl⟩⟩))
    | 20, _ => exact Or.inr (Or.inr (Or.inr ⟨rfl, Or.inr ⟨_, rfl⟩⟩))
    | 21, _ => exact Or.inr (Or.inr (Or.inr ⟨rfl, Or.inr ⟨_, rfl⟩⟩))
    | 22, _ => exact Or.inr (Or.inr (Or.inr ⟨rfl, Or.inr ⟨_, rfl⟩⟩))
    | 23, _ => exact Or.inr (Or.inr (Or.inr ⟨rfl, Or.inr ⟨_, rfl⟩⟩))
    | 24, _ => exact Or.inr (Or.inr (Or.inr ⟨rfl, Or.inr ⟨_, rfl⟩⟩))
    | 25, _ => exact Or.inl ⟨rfl, rfl⟩
    | 26, _ => exact Or.inr (Or.inl ⟨rfl, rfl⟩)
    | 27, _ => exact Or.inr (Or.inl ⟨rfl, rfl⟩)
    | 28, _ => exact Or.inr (Or.inl ⟨rfl, rfl⟩)
    | 29, _ => exact Or.inr (Or.inl ⟨rfl, rfl⟩)
    | 30, _ => exact Or.inl ⟨rfl, rfl⟩
    | 31, _ => exact Or.inr (Or.inr (Or.inr ⟨rfl, Or.inr ⟨_, rfl⟩⟩))
    | 32, _ => exact Or.inr (Or.inr (Or.inr ⟨rfl, Or.inr ⟨_, rfl⟩⟩))
    | j + 33, h => exact absurd h (by show ¬ j + 33 < 33; omega), zw_in (i := 997) (by decide +kernel) rfl, zw_in (i := 78) (by decide +kernel) rfl, rfl⟩
theorem zk_all : ∀ c, c < 13 → ∃ C T ty, zk_c c C T ty := by
  intro c hc
  match c, hc with
  | 0, _ => exact ⟨_, _, _, zk_0⟩
  | 1, _ => exact ⟨_, _, _, zk_1⟩
  | 2, _ => exact ⟨_, _, _, zk_2⟩
  | 3, _ => exact ⟨_, _, _, zk_3⟩
  | 4, _ => exact ⟨_, _, _, zk_4⟩
  | 5, _ => exact ⟨_, _, _, zk_5⟩
  | 6, _ => exact ⟨_, _, _, zk_6⟩
  | 7, _ => exact ⟨_, _, _, zk_7⟩
  | 8, _ => exact ⟨_, _, _, zk_8⟩
  | 9, _ => exact ⟨_, _, _, zk_9⟩
  | 10, _ => exact ⟨_, _, _, zk_10⟩
  | 11, _ => exact ⟨_, _, _, zk_11⟩
  | 12, _ => exact ⟨_, _, _, zk_12⟩
  | c + 13, h => exact absurd h (by omega)
