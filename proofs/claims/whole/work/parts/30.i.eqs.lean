/-! blocks 910 to 1020 -/
set_option maxRecDepth 50000 in
theorem zg_M_bestOrder_61_e (X : zv_X) (l0 : Nat) (l3 l4 : Int32) (M : zv_M) : zg_M_bestOrder_61 X l0 l3 l4 M = zg_M_bestOrder_66 X l0 l3 l4 l3 M := (zR_step X _).trans rfl
set_option maxRecDepth 50000 in
theorem zg_M_bestOrder_66_e (X : zv_X) (l0 : Nat) (l1 l2 l3 : Int32) (M : zv_M) : zg_M_bestOrder_66 X l0 l1 l2 l3 M = zg_M_bestOrder_6 X l0 l1 l2 (l3 + 1) M := (zR_step X _).trans rfl
set_option maxRecDepth 50000 in
theorem zg_M_bestOrder_72_e (X : zv_X) (l1 : Int32) (M : zv_M) : zg_M_bestOrder_72 X l1 M = some (some (.int l1), M) := (zR_step X _).trans rfl
set_option maxRecDepth 50000 in
theorem zg_M_image_0_e (X : zv_X) (l0 : Nat) (l1 : Int32) (M : zv_M) : zg_M_image_0 X l0 l1 M = if l1 = 0 then zv_ob M 12 l0 (if (M.2.1 l0 3) = 0 then zv_rb 0 M else zg_M_image_13 X l0 l1 M) else zg_M_image_13 X l0 l1 M := (zR_step X _).trans rfl
set_option maxRecDepth 50000 in
theorem zg_M_image_13_e (X : zv_X) (l0 : Nat) (l1 : Int32) (M : zv_M) : zg_M_image_13 X l0 l1 M = zg_M_image_15 X l0 l1 0 M := (zR_step X _).trans rfl
set_option maxRecDepth 50000 in
theorem zg_M_image_15_e (X : zv_X) (l0 : Nat) (l1 l2 : Int32) (M : zv_M) : zg_M_image_15 X l0 l1 l2 M = if 1668 ≤ l2 then zg_M_image_59 X l0 M else if l1 = 0 then zg_M_image_41 X l0 l1 l2 M else zv_ob M 12 l0 (zv_rf (M.2.2.2 l0 1) (fun p1 => zv_ob M 12 l0 (zv_rf (M.2.2.2 l0 0) (fun p2 => zv_ix M 0 p2 l2 (fun j3 => zv_ix M 0 p1 l2 (fun j4 => zg_M_image_53 X l0 l1 l2 (zv_wI M p1 j4 (M.2.1 p2 j3)))))))) := (zR_step X _).trans rfl
set_option maxRecDepth 50000 in
theorem zg_M_image_41_e (X : zv_X) (l0 : Nat) (l1 l2 : Int32) (M : zv_M) : zg_M_image_41 X l0 l1 l2 M = zv_ob M 12 l0 (zv_rf (M.2.2.2 l0 0) (fun p1 => zv_ob M 12 l0 (zv_rf (M.2.2.2 l0 1) (fun p2 => zv_ix M 0 p2 l2 (fun j3 => zv_ix M 0 p1 l2 (fun j4 => zg_M_image_53 X l0 l1 l2 (zv_wI M p1 j4 (M.2.1 p2 j3)))))))) := (zR_step X _).trans rfl
set_option maxRecDepth 50000 in
theorem zg_M_image_53_e (X : zv_X) (l0 : Nat) (l1 l2 : Int32) (M : zv_M) : zg_M_image_53 X l0 l1 l2 M = zg_M_image_15 X l0 l1 (l2 + 1) M := (zR_step X _).trans rfl
set_option maxRecDepth 50000 in
theorem zg_M_image_59_e (X : zv_X) (l0 : Nat) (M : zv_M) : zg_M_image_59 X l0 M = zv_ob M 12 l0 (if 1 = 0 ∨ 1 = 1 then zv_rb 1 (zv_wI M l0 3 1) else none) := (zR_step X _).trans rfl
set_option maxRecDepth 50000 in
theorem zg_M_look_0_e (X : zv_X) (l0 : Nat) (l1 : Int32) (M : zv_M) : zg_M_look_0 X l0 l1 M = if (l1 : Int32).toInt < 0 ∨ 9 < (l1 : Int32).toInt then zg_M_look_122 X l0 l1 M else zv_sw [56, 61, 69, 77, 122, 82, 90, 98, 106, 114] ((l1 : Int32).toInt - 0).toNat (fun l => zR X (zv_jmp 194 l [some (.ref l0), some (.int l1)] [] M)) := (zR_step X _).trans rfl
set_option maxRecDepth 50000 in
theorem zg_M_look_56_e (X : zv_X) (l0 : Nat) (M : zv_M) : zg_M_look_56 X l0 M = zv_ob M 12 l0 (zv_ci (zg_M_keys_0 X l0 M) (fun v2 M1 => some (some (.int v2), M1))) := (zR_step X _).trans rfl
set_option maxRecDepth 50000 in
theorem zg_M_look_61_e (X : zv_X) (l0 : Nat) (M : zv_M) : zg_M_look_61 X l0 M = zv_ob M 12 l0 (zv_rf (M.2.2.2 l0 0) (fun p1 => zv_ix M 0 p1 8 (fun j2 => some (some (.int (M.2.1 p1 j2)), M)))) := (zR_step X _).trans rfl
set_option maxRecDepth 50000 in
theorem zg_M_look_69_e (X : zv_X) (l0 : Nat) (M : zv_M) : zg_M_look_69 X l0 M = zv_ob M 12 l0 (zv_rf (M.2.2.2 l0 0) (fun p1 => zv_ix M 0 p1 9 (fun j2 => some (some (.int (M.2.1 p1 j2)), M)))) := (zR_step X _).trans rfl
set_option maxRecDepth 50000 in
theorem zg_M_look_77_e (X : zv_X) (l0 : Nat) (M : zv_M) : zg_M_look_77 X l0 M = zv_ob M 12 l0 (zv_ci (zg_M_gone_0 X l0 M) (fun v2 M1 => some (some (.int v2), M1))) := (zR_step X _).trans rfl
set_option maxRecDepth 50000 in
theorem zg_M_look_82_e (X : zv_X) (l0 : Nat) (M : zv_M) : zg_M_look_82 X l0 M = zv_ob M 12 l0 (zv_rf (M.2.2.2 l0 0) (fun p1 => zv_ix M 0 p1 10 (fun j2 => some (some (.int (M.2.1 p1 j2)), M)))) := (zR_step X _).trans rfl
set_option maxRecDepth 50000 in
theorem zg_M_look_90_e (X : zv_X) (l0 : Nat) (M : zv_M) : zg_M_look_90 X l0 M = zv_ob M 12 l0 (zv_rf (M.2.2.2 l0 0) (fun p1 => zv_ix M 0 p1 11 (fun j2 => some (some (.int (M.2.1 p1 j2)), M)))) := (zR_step X _).trans rfl
set_option maxRecDepth 50000 in
theorem zg_M_look_98_e (X : zv_X) (l0 : Nat) (M : zv_M) : zg_M_look_98 X l0 M = zv_ob M 12 l0 (zv_rf (M.2.2.2 l0 0) (fun p1 => zv_ix M 0 p1 12 (fun j2 => some (some (.int (M.2.1 p1 j2)), M)))) := (zR_step X _).trans rfl
set_option maxRecDepth 50000 in
theorem zg_M_look_106_e (X : zv_X) (l0 : Nat) (M : zv_M) : zg_M_look_106 X l0 M = zv_ob M 12 l0 (zv_rf (M.2.2.2 l0 0) (fun p1 => zv_ix M 0 p1 13 (fun j2 => some (some (.int (M.2.1 p1 j2)), M)))) := (zR_step X _).trans rfl
set_option maxRecDepth 50000 in
theorem zg_M_look_114_e (X : zv_X) (l0 : Nat) (M : zv_M) : zg_M_look_114 X l0 M = zv_ob M 12 l0 (zv_rf (M.2.2.2 l0 0) (fun p1 => zv_ix M 0 p1 14 (fun j2 => some (some (.int (M.2.1 p1 j2)), M)))) := (zR_step X _).trans rfl
set_option maxRecDepth 50000 in
theorem zg_M_look_122_e (X : zv_X) (l0 : Nat) (l1 : Int32) (M : zv_M) : zg_M_look_122 X l0 l1 M = zv_ci (zg_M_isIn_0 X l1 20 27 M) (fun v2 M1 => if v2 = 0 then zg_M_look_143 X l0 l1 M1 else zv_ob M1 12 l0 (zv_rf (M1.2.2.2 l0 0) (fun p3 => zv_ix M1 0 p3 (l1 - 20) (fun j4 => some (some (.int (M1.2.1 p3 j4)), M1))))) := (zR_step X _).trans rfl
set_option maxRecDepth 50000 in
theorem zg_M_look_143_e (X : zv_X) (l0 : Nat) (l1 : Int32) (M : zv_M) : zg_M_look_143 X l0 l1 M = if l1 = 4 then zg_M_look_161 X l0 l1 M else zv_ci (zg_M_isIn_0 X l1 10 19 M) (fun v2 M1 => if v2 = 0 then some (some (.int (-1)), M1) else zg_M_look_161 X l0 l1 M1) := (zR_step X _).trans rfl
set_option maxRecDepth 50000 in
theorem zg_M_look_161_e (X : zv_X) (l0 : Nat) (l1 : Int32) (M : zv_M) : zg_M_look_161 X l0 l1 M = zv_ob M 12 l0 (zv_rf (M.2.2.2 l0 0) (fun p1 => zv_ix M 0 p1 0 (fun j2 => zv_ob M 12 l0 (zv_cv (zg_M_laysRow_0 X l0 (M.2.1 p1 j2) M) (fun M3 => if l1 = 4 then zv_ob M3 12 l0 (zg_M_look_213 X (M3.2.1 l0 25) M3) else zg_M_look_183 X l0 l1 M3))))) := (zR_step X _).trans rfl
set_option maxRecDepth 50000 in
theorem zg_M_look_183_e (X : zv_X) (l0 : Nat) (l1 : Int32) (M : zv_M) : zg_M_look_183 X l0 l1 M = zv_ob M 12 l0 (zv_ci (zg_M_isIn_0 X (l1 - 10) 0 ((M.2.1 l0 25) - 1) M) (fun v2 M1 => if v2 = 0 then zg_M_look_212 X M1 else zv_ob M1 12 l0 (zv_rf (M1.2.2.2 l0 23) (fun p3 => zv_ix M1 0 p3 (l1 - 10) (fun j4 => zg_M_look_213 X (M1.2.1 p3 j4) M1))))) := (zR_step X _).trans rfl
set_option maxRecDepth 50000 in
theorem zg_M_look_212_e (X : zv_X) (M : zv_M) : zg_M_look_212 X M = zg_M_look_213 X (-1) M := (zR_step X _).trans rfl
set_option maxRecDepth 50000 in
theorem zg_M_look_213_e (X : zv_X) (s0 : Int32) (M : zv_M) : zg_M_look_213 X s0 M = some (some (.int s0), M) := (zR_step X _).trans rfl
set_option maxRecDepth 50000 in
theorem zg_Math_floorDiv_0_e (X : zv_X) (l0 l2 : Int64) (M : zv_M) : zg_Math_floorDiv_0 X l0 l2 M = if l2 = 0 then none else if 0 ≤ (lg_cmp (l0 ^^^ l2) 0) then zg_Math_floorDiv_27 X (l0 / l2) M else if (lg_cmp ((l0 / l2) * l2) l0) = 0 then zg_Math_floorDiv_27 X (l0 / l2) M else some (some (.long ((l0 / l2) - 1)), M) := (zR_step X _).trans rfl
set_option maxRecDepth 50000 in
theorem zg_Math_floorDiv_27_e (X : zv_X) (l4 : Int64) (M : zv_M) : zg_Math_floorDiv_27 X l4 M = some (some (.long l4), M) := (zR_step X _).trans rfl
set_option maxRecDepth 50000 in
theorem zg_Math_abs_0_e (X : zv_X) (l0 : Int32) (M : zv_M) : zg_Math_abs_0 X l0 M = if 0 ≤ l0 then zg_Math_abs_9 X l0 M else zg_Math_abs_10 X (-l0) M := (zR_step X _).trans rfl
set_option maxRecDepth 50000 in
theorem zg_Math_abs_9_e (X : zv_X) (l0 : Int32) (M : zv_M) : zg_Math_abs_9 X l0 M = zg_Math_abs_10 X l0 M := (zR_step X _).trans rfl
set_option maxRecDepth 50000 in
theorem zg_Math_abs_10_e (X : zv_X) (s0 : Int32) (M : zv_M) : zg_Math_abs_10 X s0 M = some (some (.int s0), M) := (zR_step X _).trans rfl
set_option maxRecDepth 50000 in
theorem zg_Math_max0_0_e (X : zv_X) (l0 l1 : Int32) (M : zv_M) : zg_Math_max0_0 X l0 l1 M = if l0 < l1 then zg_Math_max0_9 X l1 M else zg_Math_max0_10 X l0 M := (zR_step X _).trans rfl
set_option maxRecDepth 50000 in
theorem zg_Math_max0_9_e (X : zv_X) (l1 : Int32) (M : zv_M) : zg_Math_max0_9 X l1 M = zg_Math_max0_10 X l1 M := (zR_step X _).trans rfl
set_option maxRecDepth 50000 in
theorem zg_Math_max0_10_e (X : zv_X) (s0 : Int32) (M : zv_M) : zg_Math_max0_10 X s0 M = some (some (.int s0), M) := (zR_step X _).trans rfl
set_option maxRecDepth 50000 in
theorem zg_Math_max1_0_e (X : zv_X) (l0 l2 : Int64) (M : zv_M) : zg_Math_max1_0 X l0 l2 M = if (lg_cmp l0 l2) < 0 then zg_Math_max1_10 X l2 M else zg_Math_max1_11 X l0 M := (zR_step X _).trans rfl
set_option maxRecDepth 50000 in
theorem zg_Math_max1_10_e (X : zv_X) (l2 : Int64) (M : zv_M) : zg_Math_max1_10 X l2 M = zg_Math_max1_11 X l2 M := (zR_step X _).trans rfl
set_option maxRecDepth 50000 in
theorem zg_Math_max1_11_e (X : zv_X) (s0 : Int64) (M : zv_M) : zg_Math_max1_11 X s0 M = some (some (.long s0), M) := (zR_step X _).trans rfl
set_option maxRecDepth 50000 in
theorem zg_Math_min0_0_e (X : zv_X) (l0 l1 : Int32) (M : zv_M) : zg_Math_min0_0 X l0 l1 M = if l1 < l0 then zg_Math_min0_9 X l1 M else zg_Math_min0_10 X l0 M := (zR_step X _).trans rfl
set_option maxRecDepth 50000 in
theorem zg_Math_min0_9_e (X : zv_X) (l1 : Int32) (M : zv_M) : zg_Math_min0_9 X l1 M = zg_Math_min0_10 X l1 M := (zR_step X _).trans rfl
set_option maxRecDepth 50000 in
theorem zg_Math_min0_10_e (X : zv_X) (s0 : Int32) (M : zv_M) : zg_Math_min0_10 X s0 M = some (some (.int s0), M) := (zR_step X _).trans rfl
set_option maxRecDepth 50000 in
theorem zg_Math_min1_0_e (X : zv_X) (l0 l2 : Int64) (M : zv_M) : zg_Math_min1_0 X l0 l2 M = if 0 < (lg_cmp l0 l2) then zg_Math_min1_10 X l2 M else zg_Math_min1_11 X l0 M := (zR_step X _).trans rfl
set_option maxRecDepth 50000 in
theorem zg_Math_min1_10_e (X : zv_X) (l2 : Int64) (M : zv_M) : zg_Math_min1_10 X l2 M = zg_Math_min1_11 X l2 M := (zR_step X _).trans rfl
set_option maxRecDepth 50000 in
theorem zg_Math_min1_11_e (X : zv_X) (s0 : Int64) (M : zv_M) : zg_Math_min1_11 X s0 M = some (some (.long s0), M) := (zR_step X _).trans rfl
set_option maxRecDepth 50000 in
theorem zg_Str_length_0_e (X : zv_X) (l0 : Nat) (M : zv_M) : zg_Str_length_0 X l0 M = if l0 = 90 then none else if 20 ≤ l0 ∧ l0 < 27 then if (l0 + 30) < 4 ∨ (50 ≤ (l0 + 30) ∧ (l0 + 30) < 57) then if l0 = 90 then none else if 20 ≤ l0 ∧ l0 < 27 ∧ 22 = 22 then zv_ci (zg_Str_coder_0 X l0 M) (fun v2 M1 => some (some (.int ((Int32.ofNat (zv_old X (l0 + 30)).1) >>> (v2 &&& 31))), M1)) else none else none else none := (zR_step X _).trans rfl
set_option maxRecDepth 50000 in
theorem zg_Str_charAt_0_e (X : zv_X) (l0 : Nat) (l1 : Int32) (M : zv_M) : zg_Str_charAt_0 X l0 l1 M = if l0 = 90 then none else if 20 ≤ l0 ∧ l0 < 27 ∧ 22 = 22 then zv_ci (zg_Str_isLatin1_0 X l0 M) (fun v2 M1 => if v2 = 0 then zg_Str_charAt_16 X l0 l1 M1 else if l0 = 90 then none else if 20 ≤ l0 ∧ l0 < 27 then zv_ci (zg_Latin_charAt_0 X (l0 + 30) l1 M1) (fun v4 M3 => if vp_nar .char v4 = v4 then some (some (.int v4), M3) else none) else none) else none := (zR_step X _).trans rfl
set_option maxRecDepth 50000 in
theorem zg_Str_charAt_16_e (X : zv_X) (l0 : Nat) (l1 : Int32) (M : zv_M) : zg_Str_charAt_16 X l0 l1 M = if l0 = 90 then none else if 20 ≤ l0 ∧ l0 < 27 then none else none := (zR_step X _).trans rfl
set_option maxRecDepth 50000 in
theorem zg_Str_coder_0_e (X : zv_X) (l0 : Nat) (M : zv_M) : zg_Str_coder_0 X l0 M = if (1 : Int32) = 0 then zg_Str_coder_13 X M else if l0 = 90 then none else if 20 ≤ l0 ∧ l0 < 27 then zg_Str_coder_14 X 0 M else none := (zR_step X _).trans rfl
set_option maxRecDepth 50000 in
theorem zg_Str_coder_13_e (X : zv_X) (M : zv_M) : zg_Str_coder_13 X M = zg_Str_coder_14 X 1 M := (zR_step X _).trans rfl
set_option maxRecDepth 50000 in
theorem zg_Str_coder_14_e (X : zv_X) (s0 : Int32) (M : zv_M) : zg_Str_coder_14 X s0 M = if vp_nar .byte s0 = s0 then some (some (.int s0), M) else none := (zR_step X _).trans rfl
set_option maxRecDepth 50000 in
theorem zg_Str_isLatin1_0_e (X : zv_X) (l0 : Nat) (M : zv_M) : zg_Str_isLatin1_0 X l0 M = if (1 : Int32) = 0 then zg_Str_isLatin1_17 X M else if l0 = 90 then none else if 20 ≤ l0 ∧ l0 < 27 then if (0 : Int32) = 0 then zg_Str_isLatin1_18 X 1 M else zg_Str_isLatin1_17 X M else none := (zR_step X _).trans rfl
set_option maxRecDepth 50000 in
theorem zg_Str_isLatin1_17_e (X : zv_X) (M : zv_M) : zg_Str_isLatin1_17 X M = zg_Str_isLatin1_18 X 0 M := (zR_step X _).trans rfl
set_option maxRecDepth 50000 in
theorem zg_Str_isLatin1_18_e (X : zv_X) (s0 : Int32) (M : zv_M) : zg_Str_isLatin1_18 X s0 M = zv_rb s0 M := (zR_step X _).trans rfl
set_option maxRecDepth 50000 in
theorem zg_Str_checkIndex_0_e (X : zv_X) (l0 l1 : Int32) (M : zv_M) : zg_Str_checkIndex_0 X l0 l1 M = zv_ci (zg_Pre_checkIndex_0 X l0 l1 90 M) (fun v2 M1 => some (none, M1)) := (zR_step X _).trans rfl
set_option maxRecDepth 50000 in
theorem zg_Latin_charAt_0_e (X : zv_X) (l0 : Nat) (l1 : Int32) (M : zv_M) : zg_Latin_charAt_0 X l0 l1 M = if l0 = 90 then none else if l0 < 4 ∨ (50 ≤ l0 ∧ l0 < 57) then zv_cv (zg_Str_checkIndex_0 X l1 (Int32.ofNat (zv_old X l0).1) M) (fun M1 => if l0 = 90 then none else if 50 ≤ l0 ∧ l0 < 57 then zv_ox X l0 l1 (fun x3 => if vp_nar .char (zv_i2c (x3 &&& 255)) = (zv_i2c (x3 &&& 255)) then some (some (.int (zv_i2c (x3 &&& 255))), M1) else none) else none) else none := (zR_step X _).trans rfl
set_option maxRecDepth 50000 in
theorem zg_Arrays_fill_0_e (X : zv_X) (l0 : Nat) (l1 : Int32) (M : zv_M) : zg_Arrays_fill_0 X l0 l1 M = zv_len M l0 (fun n1 => zg_Arrays_fill_5 X l0 l1 0 (Int32.ofNat n1) M) := (zR_step X _).trans rfl
set_option maxRecDepth 50000 in
theorem zg_Arrays_fill_5_e (X : zv_X) (l0 : Nat) (l1 l2 l3 : Int32) (M : zv_M) : zg_Arrays_fill_5 X l0 l1 l2 l3 M = if l3 ≤ l2 then zg_Arrays_fill_20 X M else zv_ix M 0 l0 l2 (fun j1 => zg_Arrays_fill_5 X l0 l1 (l2 + 1) l3 (zv_wI M l0 j1 l1)) := (zR_step X _).trans rfl
set_option maxRecDepth 50000 in
theorem zg_Arrays_fill_20_e (X : zv_X) (M : zv_M) : zg_Arrays_fill_20 X M = some (none, M) := (zR_step X _).trans rfl
set_option maxRecDepth 50000 in
theorem zg_Pre_checkIndex_0_e (X : zv_X) (l0 l1 : Int32) (l2 : Nat) (M : zv_M) : zg_Pre_checkIndex_0 X l0 l1 l2 M = if l0 < 0 then zg_Pre_checkIndex_9 X l0 l1 l2 M else if l0 < l1 then zg_Pre_checkIndex_16 X l0 M else zg_Pre_checkIndex_9 X l0 l1 l2 M := (zR_step X _).trans rfl
set_option maxRecDepth 50000 in
theorem zg_Pre_checkIndex_9_e (X : zv_X) (l0 l1 : Int32) (l2 : Nat) (M : zv_M) : zg_Pre_checkIndex_9 X l0 l1 l2 M = if l2 = 90 then none else none := (zR_step X _).trans rfl
set_option maxRecDepth 50000 in
theorem zg_Pre_checkIndex_16_e (X : zv_X) (l0 : Int32) (M : zv_M) : zg_Pre_checkIndex_16 X l0 M = some (some (.int l0), M) := (zR_step X _).trans rfl
set_option maxRecDepth 50000 in
theorem zg_Law_law_0_e (X : zv_X) (l0 : Nat) (M : zv_M) : zg_Law_law_0 X l0 M = zv_ob (zv_mk M (.inr 11)) 11 M.1.length (zv_cv (zg_GP_init_0 X M.1.length (zv_mk M (.inr 11))) (fun M1 => zv_ob (zv_mk M1 (.inr 12)) 12 M1.1.length (zv_cv (zg_M_init_0 X M1.1.length (zv_mk M1 (.inr 12))) (fun M2 => zg_Law_law_18 X l0 M.1.length M1.1.length 0 M2)))) := (zR_step X _).trans rfl
set_option maxRecDepth 50000 in
theorem zg_Law_law_18_e (X : zv_X) (l0 l1 l2 : Nat) (l3 : Int32) (M : zv_M) : zg_Law_law_18 X l0 l1 l2 l3 M = if l0 = 90 then none else if l0 < 4 ∨ (50 ≤ l0 ∧ l0 < 57) then if ((Int32.ofNat (zv_old X l0).1) - 6) < l3 then zg_Law_law_1126 X M else if l0 = 90 then none else if l0 < 4 then zv_ox X l0 l3 (fun x2 => if ((x2 &&& 31) : Int32).toInt < 0 ∨ 30 < ((x2 &&& 31) : Int32).toInt then zg_Law_law_1120 X l0 l1 l2 l3 M else zv_sw [172, 235, 258, 271, 294, 327, 350, 373, 412, 425, 448, 471, 494, 538, 581, 624, 657, 680, 713, 736, 749, 772, 795, 818, 867, 926, 959, 1012, 1045, 1058, 1097] (((x2 &&& 31) : Int32).toInt - 0).toNat (fun l => zR X (zv_jmp 209 l [some (.retAddr l0), some (.ref l1), some (.ref l2), some (.int l3)] [] M))) else none else none := (zR_step X _).trans rfl
set_option maxRecDepth 50000 in
theorem zg_Law_law_172_e (X : zv_X) (l0 l1 l2 : Nat) (l3 : Int32) (M : zv_M) : zg_Law_law_172 X l0 l1 l2 l3 M = if l0 = 90 then none else if l0 < 4 then zv_ox X l0 (l3 + 1) (fun x2 => if l0 = 90 then none else if l0 < 4 then zv_ox X l0 (l3 + 2) (fun x4 => if l0 = 90 then none else if l0 < 4 then zv_ox X l0 (l3 + 3) (fun x6 => if l0 = 90 then none else if l0 < 4 then zv_ox X l0 (l3 + 4) (fun x8 => if l0 = 90 then none else if l0 < 4 then zv_ox X l0 (l3 + 5) (fun x10 => zv_ob M 11 l1 (zv_ci (zg_GP_feed_0 X l1 x2 x4 x6 x8 x10 M) (fun v12 M11 => if l0 = 90 then none else if l0 < 4 then zv_ox X l0 (l3 + 1) (fun x14 => if l0 = 90 then none else if l0 < 4 then zv_ox X l0 (l3 + 2) (fun x16 => if l0 = 90 then none else if l0 < 4 then zv_ox X l0 (l3 + 3) (fun x18 => if l0 = 90 then none else if l0 < 4 then zv_ox X l0 (l3 + 4) (fun x20 => if l0 = 90 then none else if l0 < 4 then zv_ox X l0 (l3 + 5) (fun x22 => zv_ob M11 12 l2 (zv_ci (zg_M_feed_0 X l2 x14 x16 x18 x20 x22 M11) (fun v24 M23 => if v12 = v24 then zg_Law_law_1120 X l0 l1 l2 l3 M23 else zv_rb 0 M23))) else none) else none) else none) else none) else none))) else none) else none) else none) else none) else none := (zR_step X _).trans rfl
set_option maxRecDepth 50000 in
theorem zg_Law_law_235_e (X : zv_X) (l0 l1 l2 : Nat) (l3 : Int32) (M : zv_M) : zg_Law_law_235 X l0 l1 l2 l3 M = if l0 = 90 then none else if l0 < 4 then zv_ox X l0 (l3 + 1) (fun x2 => zv_ob M 11 l1 (zv_ci (zg_GP_end_0 X l1 x2 M) (fun v4 M3 => if l0 = 90 then none else if l0 < 4 then zv_ox X l0 (l3 + 1) (fun x6 => zv_ob M3 12 l2 (zv_ci (zg_M_end_0 X l2 x6 M3) (fun v8 M7 => if v4 = v8 then zg_Law_law_1120 X l0 l1 l2 l3 M7 else zv_rb 0 M7))) else none))) else none := (zR_step X _).trans rfl
set_option maxRecDepth 50000 in
theorem zg_Law_law_258_e (X : zv_X) (l0 l1 l2 : Nat) (l3 : Int32) (M : zv_M) : zg_Law_law_258 X l0 l1 l2 l3 M = zv_ob M 11 l1 (zv_ci (zg_GP_text_0 X l1 M) (fun v2 M1 => zv_ob M1 12 l2 (zv_ci (zg_M_text_0 X l2 M1) (fun v4 M3 => if v2 = v4 then zg_Law_law_1120 X l0 l1 l2 l3 M3 else zv_rb 0 M3)))) := (zR_step X _).trans rfl
set_option maxRecDepth 50000 in
theorem zg_Law_law_271_e (X : zv_X) (l0 l1 l2 : Nat) (l3 : Int32) (M : zv_M) : zg_Law_law_271 X l0 l1 l2 l3 M = if l0 = 90 then none else if l0 < 4 then zv_ox X l0 (l3 + 1) (fun x2 => zv_ob M 11 l1 (zv_ci (zg_GP_fault_0 X l1 x2 M) (fun v4 M3 => if l0 = 90 then none else if l0 < 4 then zv_ox X l0 (l3 + 1) (fun x6 => zv_ob M3 12 l2 (zv_ci (zg_M_fault_0 X l2 x6 M3) (fun v8 M7 => if v4 = v8 then zg_Law_law_1120 X l0 l1 l2 l3 M7 else zv_rb 0 M7))) else none))) else none := (zR_step X _).trans rfl
set_option maxRecDepth 50000 in
theorem zg_Law_law_294_e (X : zv_X) (l0 l1 l2 : Nat) (l3 : Int32) (M : zv_M) : zg_Law_law_294 X l0 l1 l2 l3 M = if l0 = 90 then none else if l0 < 4 then zv_ox X l0 (l3 + 1) (fun x2 => if l0 = 90 then none else if l0 < 4 then zv_ox X l0 (l3 + 2) (fun x4 => zv_ob M 11 l1 (zv_ci (zg_GP_set_0 X l1 x2 x4 M) (fun v6 M5 => if l0 = 90 then none else if l0 < 4 then zv_ox X l0 (l3 + 1) (fun x8 => if l0 = 90 then none else if l0 < 4 then zv_ox X l0 (l3 + 2) (fun x10 => zv_ob M5 12 l2 (zv_ci (zg_M_set_0 X l2 x8 x10 M5) (fun v12 M11 => if v6 = v12 then zg_Law_law_1120 X l0 l1 l2 l3 M11 else zv_rb 0 M11))) else none) else none))) else none) else none := (zR_step X _).trans rfl
set_option maxRecDepth 50000 in
theorem zg_Law_law_327_e (X : zv_X) (l0 l1 l2 : Nat) (l3 : Int32) (M : zv_M) : zg_Law_law_327 X l0 l1 l2 l3 M = if l0 = 90 then none else if l0 < 4 then zv_ox X l0 (l3 + 1) (fun x2 => zv_ob M 11 l1 (zv_ci (zg_GP_insert_0 X l1 x2 M) (fun v4 M3 => if l0 = 90 then none else if l0 < 4 then zv_ox X l0 (l3 + 1) (fun x6 => zv_ob M3 12 l2 (zv_ci (zg_M_insert_0 X l2 x6 M3) (fun v8 M7 => if v4 = v8 then zg_Law_law_1120 X l0 l1 l2 l3 M7 else zv_rb 0 M7))) else none))) else none := (zR_step X _).trans rfl
set_option maxRecDepth 50000 in
theorem zg_Law_law_350_e (X : zv_X) (l0 l1 l2 : Nat) (l3 : Int32) (M : zv_M) : zg_Law_law_350 X l0 l1 l2 l3 M = if l0 = 90 then none else if l0 < 4 then zv_ox X l0 (l3 + 1) (fun x2 => zv_ob M 11 l1 (zv_ci (zg_GP_remove_0 X l1 x2 M) (fun v4 M3 => if l0 = 90 then none else if l0 < 4 then zv_ox X l0 (l3 + 1) (fun x6 => zv_ob M3 12 l2 (zv_ci (zg_M_remove_0 X l2 x6 M3) (fun v8 M7 => if v4 = v8 then zg_Law_law_1120 X l0 l1 l2 l3 M7 else zv_rb 0 M7))) else none))) else none := (zR_step X _).trans rfl
set_option maxRecDepth 50000 in
theorem zg_Law_law_373_e (X : zv_X) (l0 l1 l2 : Nat) (l3 : Int32) (M : zv_M) : zg_Law_law_373 X l0 l1 l2 l3 M = if l0 = 90 then none else if l0 < 4 then zv_ox X l0 (l3 + 1) (fun x2 => if x2 = 0 then zg_Law_law_386 X l0 l1 l2 l3 l1 M else zg_Law_law_387 X l0 l1 l2 l3 1 l1 M) else none := (zR_step X _).trans rfl
set_option maxRecDepth 50000 in
theorem zg_Law_law_386_e (X : zv_X) (l0 l1 l2 : Nat) (l3 : Int32) (s0 : Nat) (M : zv_M) : zg_Law_law_386 X l0 l1 l2 l3 s0 M = zg_Law_law_387 X l0 l1 l2 l3 0 s0 M := (zR_step X _).trans rfl
set_option maxRecDepth 50000 in
theorem zg_Law_law_387_e (X : zv_X) (l0 l1 l2 : Nat) (l3 s0 : Int32) (s1 : Nat) (M : zv_M) : zg_Law_law_387 X l0 l1 l2 l3 s0 s1 M = zv_ob M 11 s1 (zv_ci (zg_GP_undo_0 X s1 s0 M) (fun v2 M1 => if l0 = 90 then none else if l0 < 4 then zv_ox X l0 (l3 + 1) (fun x4 => if x4 = 0 then zg_Law_law_403 X l0 l1 l2 l3 l2 v2 M1 else zg_Law_law_404 X l0 l1 l2 l3 1 l2 v2 M1) else none)) := (zR_step X _).trans rfl
set_option maxRecDepth 50000 in
theorem zg_Law_law_403_e (X : zv_X) (l0 l1 l2 : Nat) (l3 : Int32) (s0 : Nat) (s1 : Int32) (M : zv_M) : zg_Law_law_403 X l0 l1 l2 l3 s0 s1 M = zg_Law_law_404 X l0 l1 l2 l3 0 s0 s1 M := (zR_step X _).trans rfl
set_option maxRecDepth 50000 in
theorem zg_Law_law_404_e (X : zv_X) (l0 l1 l2 : Nat) (l3 s0 : Int32) (s1 : Nat) (s2 : Int32) (M : zv_M) : zg_Law_law_404 X l0 l1 l2 l3 s0 s1 s2 M = zv_ob M 12 s1 (zv_ci (zg_M_undo_0 X s1 s0 M) (fun v2 M1 => if s2 = v2 then zg_Law_law_1120 X l0 l1 l2 l3 M1 else zv_rb 0 M1)) := (zR_step X _).trans rfl
set_option maxRecDepth 50000 in
theorem zg_Law_law_412_e (X : zv_X) (l0 l1 l2 : Nat) (l3 : Int32) (M : zv_M) : zg_Law_law_412 X l0 l1 l2 l3 M = zv_ob M 11 l1 (zv_ci (zg_GP_build_0 X l1 M) (fun v2 M1 => zv_ob M1 12 l2 (zv_ci (zg_M_build_0 X l2 M1) (fun v4 M3 => if v2 = v4 then zg_Law_law_1120 X l0 l1 l2 l3 M3 else zv_rb 0 M3)))) := (zR_step X _).trans rfl
set_option maxRecDepth 50000 in
theorem zg_Law_law_425_e (X : zv_X) (l0 l1 l2 : Nat) (l3 : Int32) (M : zv_M) : zg_Law_law_425 X l0 l1 l2 l3 M = if l0 = 90 then none else if l0 < 4 then zv_ox X l0 (l3 + 1) (fun x2 => zv_ob M 11 l1 (zv_ci (zg_GP_count_0 X l1 x2 M) (fun v4 M3 => if l0 = 90 then none else if l0 < 4 then zv_ox X l0 (l3 + 1) (fun x6 => zv_ob M3 12 l2 (zv_ci (zg_M_count_0 X l2 x6 M3) (fun v8 M7 => if v4 = v8 then zg_Law_law_1120 X l0 l1 l2 l3 M7 else zv_rb 0 M7))) else none))) else none := (zR_step X _).trans rfl
set_option maxRecDepth 50000 in
theorem zg_Law_law_448_e (X : zv_X) (l0 l1 l2 : Nat) (l3 : Int32) (M : zv_M) : zg_Law_law_448 X l0 l1 l2 l3 M = if l0 = 90 then none else if l0 < 4 then zv_ox X l0 (l3 + 1) (fun x2 => zv_ob M 11 l1 (zv_ci (zg_GP_key_0 X l1 x2 M) (fun v4 M3 => if l0 = 90 then none else if l0 < 4 then zv_ox X l0 (l3 + 1) (fun x6 => zv_ob M3 12 l2 (zv_ci (zg_M_key_0 X l2 x6 M3) (fun v8 M7 => if v4 = v8 then zg_Law_law_1120 X l0 l1 l2 l3 M7 else zv_rb 0 M7))) else none))) else none := (zR_step X _).trans rfl
set_option maxRecDepth 50000 in
theorem zg_Law_law_471_e (X : zv_X) (l0 l1 l2 : Nat) (l3 : Int32) (M : zv_M) : zg_Law_law_471 X l0 l1 l2 l3 M = if l0 = 90 then none else if l0 < 4 then zv_ox X l0 (l3 + 1) (fun x2 => zv_ob M 11 l1 (zv_ci (zg_GP_rank_0 X l1 x2 M) (fun v4 M3 => if l0 = 90 then none else if l0 < 4 then zv_ox X l0 (l3 + 1) (fun x6 => zv_ob M3 12 l2 (zv_ci (zg_M_rank_0 X l2 x6 M3) (fun v8 M7 => if v4 = v8 then zg_Law_law_1120 X l0 l1 l2 l3 M7 else zv_rb 0 M7))) else none))) else none := (zR_step X _).trans rfl
set_option maxRecDepth 50000 in
theorem zg_Law_law_494_e (X : zv_X) (l0 l1 l2 : Nat) (l3 : Int32) (M : zv_M) : zg_Law_law_494 X l0 l1 l2 l3 M = if l0 = 90 then none else if l0 < 4 then zv_ox X l0 (l3 + 1) (fun x2 => if l0 = 90 then none else if l0 < 4 then zv_ox X l0 (l3 + 2) (fun x4 => if l0 = 90 then none else if l0 < 4 then zv_ox X l0 (l3 + 3) (fun x6 => zv_ob M 11 l1 (zv_cl (zg_GP_range_0 X l1 x2 x4 x6 M) (fun v8 M7 => if l0 = 90 then none else if l0 < 4 then zv_ox X l0 (l3 + 1) (fun x10 => if l0 = 90 then none else if l0 < 4 then zv_ox X l0 (l3 + 2) (fun x12 => if l0 = 90 then none else if l0 < 4 then zv_ox X l0 (l3 + 3) (fun x14 => zv_ob M7 12 l2 (zv_cl (zg_M_range_0 X l2 x10 x12 x14 M7) (fun v16 M15 => if (lg_cmp v8 v16) = 0 then zg_Law_law_1120 X l0 l1 l2 l3 M15 else zv_rb 0 M15))) else none) else none) else none))) else none) else none) else none := (zR_step X _).trans rfl
set_option maxRecDepth 50000 in
theorem zg_Law_law_538_e (X : zv_X) (l0 l1 l2 : Nat) (l3 : Int32) (M : zv_M) : zg_Law_law_538 X l0 l1 l2 l3 M = if l0 = 90 then none else if l0 < 4 then zv_ox X l0 (l3 + 1) (fun x2 => if l0 = 90 then none else if l0 < 4 then zv_ox X l0 (l3 + 2) (fun x4 => if l0 = 90 then none else if l0 < 4 then zv_ox X l0 (l3 + 3) (fun x6 => zv_ob M 11 l1 (zv_ci (zg_GP_piece_0 X l1 x2 x4 x6 M) (fun v8 M7 => if l0 = 90 then none else if l0 < 4 then zv_ox X l0 (l3 + 1) (fun x10 => if l0 = 90 then none else if l0 < 4 then zv_ox X l0 (l3 + 2) (fun x12 => if l0 = 90 then none else if l0 < 4 then zv_ox X l0 (l3 + 3) (fun x14 => zv_ob M7 12 l2 (zv_ci (zg_M_piece_0 X l2 x10 x12 x14 M7) (fun v16 M15 => if v8 = v16 then zg_Law_law_1120 X l0 l1 l2 l3 M15 else zv_rb 0 M15))) else none) else none) else none))) else none) else none) else none := (zR_step X _).trans rfl
set_option maxRecDepth 50000 in
theorem zg_Law_law_581_e (X : zv_X) (l0 l1 l2 : Nat) (l3 : Int32) (M : zv_M) : zg_Law_law_581 X l0 l1 l2 l3 M = if l0 = 90 then none else if l0 < 4 then zv_ox X l0 (l3 + 1) (fun x2 => if l0 = 90 then none else if l0 < 4 then zv_ox X l0 (l3 + 2) (fun x4 => if l0 = 90 then none else if l0 < 4 then zv_ox X l0 (l3 + 3) (fun x6 => zv_ob M 11 l1 (zv_ci (zg_GP_guess_0 X l1 x2 x4 x6 M) (fun v8 M7 => if l0 = 90 then none else if l0 < 4 then zv_ox X l0 (l3 + 1) (fun x10 => if l0 = 90 then none else if l0 < 4 then zv_ox X l0 (l3 + 2) (fun x12 => if l0 = 90 then none else if l0 < 4 then zv_ox X l0 (l3 + 3) (fun x14 => zv_ob M7 12 l2 (zv_ci (zg_M_guess_0 X l2 x10 x12 x14 M7) (fun v16 M15 => if v8 = v16 then zg_Law_law_1120 X l0 l1 l2 l3 M15 else zv_rb 0 M15))) else none) else none) else none))) else none) else none) else none := (zR_step X _).trans rfl
set_option maxRecDepth 50000 in
theorem zg_Law_law_624_e (X : zv_X) (l0 l1 l2 : Nat) (l3 : Int32) (M : zv_M) : zg_Law_law_624 X l0 l1 l2 l3 M = if l0 = 90 then none else if l0 < 4 then zv_ox X l0 (l3 + 1) (fun x2 => if l0 = 90 then none else if l0 < 4 then zv_ox X l0 (l3 + 2) (fun x4 => zv_ob M 11 l1 (zv_ci (zg_GP_seek_0 X l1 x2 x4 M) (fun v6 M5 => if l0 = 90 then none else if l0 < 4 then zv_ox X l0 (l3 + 1) (fun x8 => if l0 = 90 then none else if l0 < 4 then zv_ox X l0 (l3 + 2) (fun x10 => zv_ob M5 12 l2 (zv_ci (zg_M_seek_0 X l2 x8 x10 M5) (fun v12 M11 => if v6 = v12 then zg_Law_law_1120 X l0 l1 l2 l3 M11 else zv_rb 0 M11))) else none) else none))) else none) else none := (zR_step X _).trans rfl
set_option maxRecDepth 50000 in
theorem zg_Law_law_657_e (X : zv_X) (l0 l1 l2 : Nat) (l3 : Int32) (M : zv_M) : zg_Law_law_657 X l0 l1 l2 l3 M = if l0 = 90 then none else if l0 < 4 then zv_ox X l0 (l3 + 1) (fun x2 => zv_ob M 11 l1 (zv_ci (zg_GP_pages_0 X l1 x2 M) (fun v4 M3 => if l0 = 90 then none else if l0 < 4 then zv_ox X l0 (l3 + 1) (fun x6 => zv_ob M3 12 l2 (zv_ci (zg_M_pages_0 X l2 x6 M3) (fun v8 M7 => if v4 = v8 then zg_Law_law_1120 X l0 l1 l2 l3 M7 else zv_rb 0 M7))) else none))) else none := (zR_step X _).trans rfl
set_option maxRecDepth 50000 in
theorem zg_Law_law_680_e (X : zv_X) (l0 l1 l2 : Nat) (l3 : Int32) (M : zv_M) : zg_Law_law_680 X l0 l1 l2 l3 M = if l0 = 90 then none else if l0 < 4 then zv_ox X l0 (l3 + 1) (fun x2 => if l0 = 90 then none else if l0 < 4 then zv_ox X l0 (l3 + 2) (fun x4 => zv_ob M 11 l1 (zv_ci (zg_GP_errors_0 X l1 x2 x4 M) (fun v6 M5 => if l0 = 90 then none else if l0 < 4 then zv_ox X l0 (l3 + 1) (fun x8 => if l0 = 90 then none else if l0 < 4 then zv_ox X l0 (l3 + 2) (fun x10 => zv_ob M5 12 l2 (zv_ci (zg_M_errors_0 X l2 x8 x10 M5) (fun v12 M11 => if v6 = v12 then zg_Law_law_1120 X l0 l1 l2 l3 M11 else zv_rb 0 M11))) else none) else none))) else none) else none := (zR_step X _).trans rfl
set_option maxRecDepth 50000 in
theorem zg_Law_law_713_e (X : zv_X) (l0 l1 l2 : Nat) (l3 : Int32) (M : zv_M) : zg_Law_law_713 X l0 l1 l2 l3 M = if l0 = 90 then none else if l0 < 4 then zv_ox X l0 (l3 + 1) (fun x2 => zv_ob M 11 l1 (zv_ci (zg_GP_bestSlack_0 X l1 x2 M) (fun v4 M3 => if l0 = 90 then none else if l0 < 4 then zv_ox X l0 (l3 + 1) (fun x6 => zv_ob M3 12 l2 (zv_ci (zg_M_bestSlack_0 X l2 x6 M3) (fun v8 M7 => if v4 = v8 then zg_Law_law_1120 X l0 l1 l2 l3 M7 else zv_rb 0 M7))) else none))) else none := (zR_step X _).trans rfl
set_option maxRecDepth 50000 in
theorem zg_Law_law_736_e (X : zv_X) (l0 l1 l2 : Nat) (l3 : Int32) (M : zv_M) : zg_Law_law_736 X l0 l1 l2 l3 M = zv_ob M 11 l1 (zv_ci (zg_GP_lay_0 X l1 M) (fun v2 M1 => zv_ob M1 12 l2 (zv_ci (zg_M_lay_0 X l2 M1) (fun v4 M3 => if v2 = v4 then zg_Law_law_1120 X l0 l1 l2 l3 M3 else zv_rb 0 M3)))) := (zR_step X _).trans rfl
set_option maxRecDepth 50000 in
theorem zg_Law_law_749_e (X : zv_X) (l0 l1 l2 : Nat) (l3 : Int32) (M : zv_M) : zg_Law_law_749 X l0 l1 l2 l3 M = if l0 = 90 then none else if l0 < 4 then zv_ox X l0 (l3 + 1) (fun x2 => zv_ob M 11 l1 (zv_ci (zg_GP_put_0 X l1 x2 M) (fun v4 M3 => if l0 = 90 then none else if l0 < 4 then zv_ox X l0 (l3 + 1) (fun x6 => zv_ob M3 12 l2 (zv_ci (zg_M_put_0 X l2 x6 M3) (fun v8 M7 => if v4 = v8 then zg_Law_law_1120 X l0 l1 l2 l3 M7 else zv_rb 0 M7))) else none))) else none := (zR_step X _).trans rfl
set_option maxRecDepth 50000 in
theorem zg_Law_law_772_e (X : zv_X) (l0 l1 l2 : Nat) (l3 : Int32) (M : zv_M) : zg_Law_law_772 X l0 l1 l2 l3 M = if l0 = 90 then none else if l0 < 4 then zv_ox X l0 (l3 + 1) (fun x2 => zv_ob M 11 l1 (zv_ci (zg_GP_cell_0 X l1 x2 M) (fun v4 M3 => if l0 = 90 then none else if l0 < 4 then zv_ox X l0 (l3 + 1) (fun x6 => zv_ob M3 12 l2 (zv_ci (zg_M_cell_0 X l2 x6 M3) (fun v8 M7 => if v4 = v8 then zg_Law_law_1120 X l0 l1 l2 l3 M7 else zv_rb 0 M7))) else none))) else none := (zR_step X _).trans rfl
set_option maxRecDepth 50000 in
theorem zg_Law_law_795_e (X : zv_X) (l0 l1 l2 : Nat) (l3 : Int32) (M : zv_M) : zg_Law_law_795 X l0 l1 l2 l3 M = if l0 = 90 then none else if l0 < 4 then zv_ox X l0 (l3 + 1) (fun x2 => zv_ob M 11 l1 (zv_ci (zg_GP_poison_0 X l1 x2 M) (fun v4 M3 => if l0 = 90 then none else if l0 < 4 then zv_ox X l0 (l3 + 1) (fun x6 => zv_ob M3 12 l2 (zv_ci (zg_M_poison_0 X l2 x6 M3) (fun v8 M7 => if v4 = v8 then zg_Law_law_1120 X l0 l1 l2 l3 M7 else zv_rb 0 M7))) else none))) else none := (zR_step X _).trans rfl
set_option maxRecDepth 50000 in
theorem zg_Law_law_818_e (X : zv_X) (l0 l1 l2 : Nat) (l3 : Int32) (M : zv_M) : zg_Law_law_818 X l0 l1 l2 l3 M = if l0 = 90 then none else if l0 < 4 then zv_ox X l0 (l3 + 1) (fun x2 => if l0 = 90 then none else if l0 < 4 then zv_ox X l0 (l3 + 2) (fun x4 => if x4 = 0 then zg_Law_law_836 X l0 l1 l2 l3 x2 l1 M else zg_Law_law_837 X l0 l1 l2 l3 1 x2 l1 M) else none) else none := (zR_step X _).trans rfl
set_option maxRecDepth 50000 in
theorem zg_Law_law_836_e (X : zv_X) (l0 l1 l2 : Nat) (l3 s0 : Int32) (s1 : Nat) (M : zv_M) : zg_Law_law_836 X l0 l1 l2 l3 s0 s1 M = zg_Law_law_837 X l0 l1 l2 l3 0 s0 s1 M := (zR_step X _).trans rfl
set_option maxRecDepth 50000 in
theorem zg_Law_law_837_e (X : zv_X) (l0 l1 l2 : Nat) (l3 s0 s1 : Int32) (s2 : Nat) (M : zv_M) : zg_Law_law_837 X l0 l1 l2 l3 s0 s1 s2 M = zv_ob M 11 s2 (zv_ci (zg_GP_passes_0 X s2 s1 s0 M) (fun v2 M1 => if l0 = 90 then none else if l0 < 4 then zv_ox X l0 (l3 + 1) (fun x4 => if l0 = 90 then none else if l0 < 4 then zv_ox X l0 (l3 + 2) (fun x6 => if x6 = 0 then zg_Law_law_858 X l0 l1 l2 l3 x4 l2 v2 M1 else zg_Law_law_859 X l0 l1 l2 l3 1 x4 l2 v2 M1) else none) else none)) := (zR_step X _).trans rfl
set_option maxRecDepth 50000 in
theorem zg_Law_law_858_e (X : zv_X) (l0 l1 l2 : Nat) (l3 s0 : Int32) (s1 : Nat) (s2 : Int32) (M : zv_M) : zg_Law_law_858 X l0 l1 l2 l3 s0 s1 s2 M = zg_Law_law_859 X l0 l1 l2 l3 0 s0 s1 s2 M := (zR_step X _).trans rfl
set_option maxRecDepth 50000 in
theorem zg_Law_law_859_e (X : zv_X) (l0 l1 l2 : Nat) (l3 s0 s1 : Int32) (s2 : Nat) (s3 : Int32) (M : zv_M) : zg_Law_law_859 X l0 l1 l2 l3 s0 s1 s2 s3 M = zv_ob M 12 s2 (zv_ci (zg_M_passes_0 X s2 s1 s0 M) (fun v2 M1 => if s3 = v2 then zg_Law_law_1120 X l0 l1 l2 l3 M1 else zv_rb 0 M1)) := (zR_step X _).trans rfl
set_option maxRecDepth 50000 in
theorem zg_Law_law_867_e (X : zv_X) (l0 l1 l2 : Nat) (l3 : Int32) (M : zv_M) : zg_Law_law_867 X l0 l1 l2 l3 M = if l0 = 90 then none else if l0 < 4 then zv_ox X l0 (l3 + 1) (fun x2 => if l0 = 90 then none else if l0 < 4 then zv_ox X l0 (l3 + 2) (fun x4 => if l0 = 90 then none else if l0 < 4 then zv_ox X l0 (l3 + 3) (fun x6 => if x6 = 0 then zg_Law_law_890 X l0 l1 l2 l3 x4 x2 l1 M else zg_Law_law_891 X l0 l1 l2 l3 1 x4 x2 l1 M) else none) else none) else none := (zR_step X _).trans rfl
set_option maxRecDepth 50000 in
theorem zg_Law_law_890_e (X : zv_X) (l0 l1 l2 : Nat) (l3 s0 s1 : Int32) (s2 : Nat) (M : zv_M) : zg_Law_law_890 X l0 l1 l2 l3 s0 s1 s2 M = zg_Law_law_891 X l0 l1 l2 l3 0 s0 s1 s2 M := (zR_step X _).trans rfl
set_option maxRecDepth 50000 in
theorem zg_Law_law_891_e (X : zv_X) (l0 l1 l2 : Nat) (l3 s0 s1 s2 : Int32) (s3 : Nat) (M : zv_M) : zg_Law_law_891 X l0 l1 l2 l3 s0 s1 s2 s3 M = zv_ob M 11 s3 (zv_ci (zg_GP_falses_0 X s3 s2 s1 s0 M) (fun v2 M1 => if l0 = 90 then none else if l0 < 4 then zv_ox X l0 (l3 + 1) (fun x4 => if l0 = 90 then none else if l0 < 4 then zv_ox X l0 (l3 + 2) (fun x6 => if l0 = 90 then none else if l0 < 4 then zv_ox X l0 (l3 + 3) (fun x8 => if x8 = 0 then zg_Law_law_917 X l0 l1 l2 l3 x6 x4 l2 v2 M1 else zg_Law_law_918 X l0 l1 l2 l3 1 x6 x4 l2 v2 M1) else none) else none) else none)) := (zR_step X _).trans rfl
set_option maxRecDepth 50000 in
theorem zg_Law_law_917_e (X : zv_X) (l0 l1 l2 : Nat) (l3 s0 s1 : Int32) (s2 : Nat) (s3 : Int32) (M : zv_M) : zg_Law_law_917 X l0 l1 l2 l3 s0 s1 s2 s3 M = zg_Law_law_918 X l0 l1 l2 l3 0 s0 s1 s2 s3 M := (zR_step X _).trans rfl
set_option maxRecDepth 50000 in
theorem zg_Law_law_918_e (X : zv_X) (l0 l1 l2 : Nat) (l3 s0 s1 s2 : Int32) (s3 : Nat) (s4 : Int32) (M : zv_M) : zg_Law_law_918 X l0 l1 l2 l3 s0 s1 s2 s3 s4 M = zv_ob M 12 s3 (zv_ci (zg_M_falses_0 X s3 s2 s1 s0 M) (fun v2 M1 => if s4 = v2 then zg_Law_law_1120 X l0 l1 l2 l3 M1 else zv_rb 0 M1)) := (zR_step X _).trans rfl
set_option maxRecDepth 50000 in
theorem zg_Law_law_926_e (X : zv_X) (l0 l1 l2 : Nat) (l3 : Int32) (M : zv_M) : zg_Law_law_926 X l0 l1 l2 l3 M = if l0 = 90 then none else if l0 < 4 then zv_ox X l0 (l3 + 1) (fun x2 => if l0 = 90 then none else if l0 < 4 then zv_ox X l0 (l3 + 2) (fun x4 => zv_ob M 11 l1 (zv_ci (zg_GP_point_0 X l1 x2 x4 M) (fun v6 M5 => if l0 = 90 then none else if l0 < 4 then zv_ox X l0 (l3 + 1) (fun x8 => if l0 = 90 then none else if l0 < 4 then zv_ox X l0 (l3 + 2) (fun x10 => zv_ob M5 12 l2 (zv_ci (zg_M_point_0 X l2 x8 x10 M5) (fun v12 M11 => if v6 = v12 then zg_Law_law_1120 X l0 l1 l2 l3 M11 else zv_rb 0 M11))) else none) else none))) else none) else none := (zR_step X _).trans rfl
set_option maxRecDepth 50000 in
theorem zg_Law_law_959_e (X : zv_X) (l0 l1 l2 : Nat) (l3 : Int32) (M : zv_M) : zg_Law_law_959 X l0 l1 l2 l3 M = if l0 = 90 then none else if l0 < 4 then zv_ox X l0 (l3 + 1) (fun x2 => if l0 = 90 then none else if l0 < 4 then zv_ox X l0 (l3 + 2) (fun x4 => if l0 = 90 then none else if l0 < 4 then zv_ox X l0 (l3 + 3) (fun x6 => if l0 = 90 then none else if l0 < 4 then zv_ox X l0 (l3 + 4) (fun x8 => zv_ob M 11 l1 (zv_ci (zg_GP_box_0 X l1 x2 x4 x6 x8 M) (fun v10 M9 => if l0 = 90 then none else if l0 < 4 then zv_ox X l0 (l3 + 1) (fun x12 => if l0 = 90 then none else if l0 < 4 then zv_ox X l0 (l3 + 2) (fun x14 => if l0 = 90 then none else if l0 < 4 then zv_ox X l0 (l3 + 3) (fun x16 => if l0 = 90 then none else if l0 < 4 then zv_ox X l0 (l3 + 4) (fun x18 => zv_ob M9 12 l2 (zv_ci (zg_M_box_0 X l2 x12 x14 x16 x18 M9) (fun v20 M19 => if v10 = v20 then zg_Law_law_1120 X l0 l1 l2 l3 M19 else zv_rb 0 M19))) else none) else none) else none) else none))) else none) else none) else none) else none := (zR_step X _).trans rfl
set_option maxRecDepth 50000 in
theorem zg_Law_law_1012_e (X : zv_X) (l0 l1 l2 : Nat) (l3 : Int32) (M : zv_M) : zg_Law_law_1012 X l0 l1 l2 l3 M = if l0 = 90 then none else if l0 < 4 then zv_ox X l0 (l3 + 1) (fun x2 => if l0 = 90 then none else if l0 < 4 then zv_ox X l0 (l3 + 2) (fun x4 => zv_ob M 11 l1 (zv_ci (zg_GP_boxed_0 X l1 x2 x4 M) (fun v6 M5 => if l0 = 90 then none else if l0 < 4 then zv_ox X l0 (l3 + 1) (fun x8 => if l0 = 90 then none else if l0 < 4 then zv_ox X l0 (l3 + 2) (fun x10 => zv_ob M5 12 l2 (zv_ci (zg_M_boxed_0 X l2 x8 x10 M5) (fun v12 M11 => if v6 = v12 then zg_Law_law_1120 X l0 l1 l2 l3 M11 else zv_rb 0 M11))) else none) else none))) else none) else none := (zR_step X _).trans rfl
set_option maxRecDepth 50000 in
theorem zg_Law_law_1045_e (X : zv_X) (l0 l1 l2 : Nat) (l3 : Int32) (M : zv_M) : zg_Law_law_1045 X l0 l1 l2 l3 M = zv_ob M 11 l1 (zv_ci (zg_GP_bestOrder_0 X l1 M) (fun v2 M1 => zv_ob M1 12 l2 (zv_ci (zg_M_bestOrder_0 X l2 M1) (fun v4 M3 => if v2 = v4 then zg_Law_law_1120 X l0 l1 l2 l3 M3 else zv_rb 0 M3)))) := (zR_step X _).trans rfl
set_option maxRecDepth 50000 in
theorem zg_Law_law_1058_e (X : zv_X) (l0 l1 l2 : Nat) (l3 : Int32) (M : zv_M) : zg_Law_law_1058 X l0 l1 l2 l3 M = if l0 = 90 then none else if l0 < 4 then zv_ox X l0 (l3 + 1) (fun x2 => if x2 = 0 then zg_Law_law_1071 X l0 l1 l2 l3 l1 M else zg_Law_law_1072 X l0 l1 l2 l3 1 l1 M) else none := (zR_step X _).trans rfl
set_option maxRecDepth 50000 in
theorem zg_Law_law_1071_e (X : zv_X) (l0 l1 l2 : Nat) (l3 : Int32) (s0 : Nat) (M : zv_M) : zg_Law_law_1071 X l0 l1 l2 l3 s0 M = zg_Law_law_1072 X l0 l1 l2 l3 0 s0 M := (zR_step X _).trans rfl
set_option maxRecDepth 50000 in
theorem zg_Law_law_1072_e (X : zv_X) (l0 l1 l2 : Nat) (l3 s0 : Int32) (s1 : Nat) (M : zv_M) : zg_Law_law_1072 X l0 l1 l2 l3 s0 s1 M = zv_ob M 11 s1 (zv_ci (zg_GP_image_0 X s1 s0 M) (fun v2 M1 => if l0 = 90 then none else if l0 < 4 then zv_ox X l0 (l3 + 1) (fun x4 => if x4 = 0 then zg_Law_law_1088 X l0 l1 l2 l3 l2 v2 M1 else zg_Law_law_1089 X l0 l1 l2 l3 1 l2 v2 M1) else none)) := (zR_step X _).trans rfl
set_option maxRecDepth 50000 in
theorem zg_Law_law_1088_e (X : zv_X) (l0 l1 l2 : Nat) (l3 : Int32) (s0 : Nat) (s1 : Int32) (M : zv_M) : zg_Law_law_1088 X l0 l1 l2 l3 s0 s1 M = zg_Law_law_1089 X l0 l1 l2 l3 0 s0 s1 M := (zR_step X _).trans rfl
set_option maxRecDepth 50000 in
theorem zg_Law_law_1089_e (X : zv_X) (l0 l1 l2 : Nat) (l3 s0 : Int32) (s1 : Nat) (s2 : Int32) (M : zv_M) : zg_Law_law_1089 X l0 l1 l2 l3 s0 s1 s2 M = zv_ob M 12 s1 (zv_ci (zg_M_image_0 X s1 s0 M) (fun v2 M1 => if s2 = v2 then zg_Law_law_1120 X l0 l1 l2 l3 M1 else zv_rb 0 M1)) := (zR_step X _).trans rfl
set_option maxRecDepth 50000 in
theorem zg_Law_law_1097_e (X : zv_X) (l0 l1 l2 : Nat) (l3 : Int32) (M : zv_M) : zg_Law_law_1097 X l0 l1 l2 l3 M = if l0 = 90 then none else if l0 < 4 then zv_ox X l0 (l3 + 1) (fun x2 => zv_ob M 11 l1 (zv_ci (zg_GP_look_0 X l1 x2 M) (fun v4 M3 => if l0 = 90 then none else if l0 < 4 then zv_ox X l0 (l3 + 1) (fun x6 => zv_ob M3 12 l2 (zv_ci (zg_M_look_0 X l2 x6 M3) (fun v8 M7 => if v4 = v8 then zg_Law_law_1120 X l0 l1 l2 l3 M7 else zv_rb 0 M7))) else none))) else none := (zR_step X _).trans rfl
set_option maxRecDepth 50000 in
theorem zg_Law_law_1120_e (X : zv_X) (l0 l1 l2 : Nat) (l3 : Int32) (M : zv_M) : zg_Law_law_1120 X l0 l1 l2 l3 M = zg_Law_law_18 X l0 l1 l2 (l3 + 6) M := (zR_step X _).trans rfl
set_option maxRecDepth 50000 in
theorem zg_Law_law_1126_e (X : zv_X) (M : zv_M) : zg_Law_law_1126 X M = zv_rb 1 M := (zR_step X _).trans rfl
