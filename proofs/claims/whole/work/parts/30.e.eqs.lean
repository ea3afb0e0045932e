/-! blocks 390 to 520 -/
set_option maxRecDepth 50000 in
theorem zg_GP_boxed_27_e (X : zv_X) (M : zv_M) : zg_GP_boxed_27 X M = some (some (.int (-1)), M) := (zR_step X _).trans rfl
set_option maxRecDepth 50000 in
theorem zg_GP_boxed_29_e (X : zv_X) (l0 : Nat) (l1 l2 : Int32) (M : zv_M) : zg_GP_boxed_29 X l0 l1 l2 M = if l2 = 0 then zv_ob M 11 l0 (zv_rf (M.2.2.2 l0 0) (fun p1 => zv_ob M 9 p1 (zv_rf (M.2.2.2 p1 7) (fun p2 => zv_ob M 6 p2 (zv_ci (zg_Plane_inside_0 X p2 l1 M) (fun v4 M3 => zg_GP_boxed_61 X v4 M3)))))) else zg_GP_boxed_47 X l0 l1 l2 M := (zR_step X _).trans rfl
set_option maxRecDepth 50000 in
theorem zg_GP_boxed_47_e (X : zv_X) (l0 : Nat) (l1 l2 : Int32) (M : zv_M) : zg_GP_boxed_47 X l0 l1 l2 M = zv_ob M 11 l0 (zv_rf (M.2.2.2 l0 0) (fun p1 => zv_ob M 9 p1 (zv_rf (M.2.2.2 p1 7) (fun p2 => zv_ob M 6 p2 (zv_ci (zg_Plane_readBy_0 X p2 l1 (l2 - 1) M) (fun v4 M3 => zg_GP_boxed_61 X v4 M3)))))) := (zR_step X _).trans rfl
set_option maxRecDepth 50000 in
theorem zg_GP_boxed_61_e (X : zv_X) (s0 : Int32) (M : zv_M) : zg_GP_boxed_61 X s0 M = some (some (.int s0), M) := (zR_step X _).trans rfl
set_option maxRecDepth 50000 in
theorem zg_GP_bestOrder_0_e (X : zv_X) (l0 : Nat) (M : zv_M) : zg_GP_bestOrder_0 X l0 M = zg_GP_bestOrder_6 X l0 0 0 0 M := (zR_step X _).trans rfl
set_option maxRecDepth 50000 in
theorem zg_GP_bestOrder_6_e (X : zv_X) (l0 : Nat) (l1 l2 l3 : Int32) (M : zv_M) : zg_GP_bestOrder_6 X l0 l1 l2 l3 M = if 3 ≤ l3 then zg_GP_bestOrder_77 X l1 M else zg_GP_bestOrder_17 X l0 l1 l2 l3 0 0 M := (zR_step X _).trans rfl
set_option maxRecDepth 50000 in
theorem zg_GP_bestOrder_17_e (X : zv_X) (l0 : Nat) (l1 l2 l3 l4 l5 : Int32) (M : zv_M) : zg_GP_bestOrder_17 X l0 l1 l2 l3 l4 l5 M = zv_ob M 11 l0 (zv_rf (M.2.2.2 l0 0) (fun p1 => zv_ob M 9 p1 (zv_rf (M.2.2.2 p1 7) (fun p2 => zv_ob M 6 p2 (if (M.2.1 p2 4) ≤ l5 then zg_GP_bestOrder_56 X l0 l1 l2 l3 l4 M else zv_ob M 11 l0 (zv_rf (M.2.2.2 l0 0) (fun p3 => zv_ob M 9 p3 (zv_rf (M.2.2.2 p3 7) (fun p4 => zv_ob M 6 p4 (zv_ci (zg_Plane_readBy_0 X p4 l5 l3 M) (fun v6 M5 => zg_GP_bestOrder_17 X l0 l1 l2 l3 (l4 + v6) (l5 + 1) M5))))))))))) := (zR_step X _).trans rfl
set_option maxRecDepth 50000 in
theorem zg_GP_bestOrder_56_e (X : zv_X) (l0 : Nat) (l1 l2 l3 l4 : Int32) (M : zv_M) : zg_GP_bestOrder_56 X l0 l1 l2 l3 l4 M = if l3 = 0 then zg_GP_bestOrder_66 X l0 l3 l4 M else if l2 ≤ l4 then zg_GP_bestOrder_71 X l0 l1 l2 l3 M else zg_GP_bestOrder_66 X l0 l3 l4 M := (zR_step X _).trans rfl
set_option maxRecDepth 50000 in
theorem zg_GP_bestOrder_66_e (X : zv_X) (l0 : Nat) (l3 l4 : Int32) (M : zv_M) : zg_GP_bestOrder_66 X l0 l3 l4 M = zg_GP_bestOrder_71 X l0 l3 l4 l3 M := (zR_step X _).trans rfl
set_option maxRecDepth 50000 in
theorem zg_GP_bestOrder_71_e (X : zv_X) (l0 : Nat) (l1 l2 l3 : Int32) (M : zv_M) : zg_GP_bestOrder_71 X l0 l1 l2 l3 M = zg_GP_bestOrder_6 X l0 l1 l2 (l3 + 1) M := (zR_step X _).trans rfl
set_option maxRecDepth 50000 in
theorem zg_GP_bestOrder_77_e (X : zv_X) (l1 : Int32) (M : zv_M) : zg_GP_bestOrder_77 X l1 M = some (some (.int l1), M) := (zR_step X _).trans rfl
set_option maxRecDepth 50000 in
theorem zg_GP_image_0_e (X : zv_X) (l0 : Nat) (l1 : Int32) (M : zv_M) : zg_GP_image_0 X l0 l1 M = if l1 = 0 then zg_GP_image_23 X l0 M else zv_ob M 11 l0 (zv_rf (M.2.2.2 l0 1) (fun p1 => zv_ob M 11 l0 (zv_rf (M.2.2.2 l0 0) (fun p2 => zv_ob M 9 p1 (zv_cv (zg_State_copyFrom_0 X p1 p2 M) (fun M3 => zv_ob M3 11 l0 (if 1 = 0 ∨ 1 = 1 then zg_GP_image_80 X l0 (zv_wI M3 l0 2 1) else none))))))) := (zR_step X _).trans rfl
set_option maxRecDepth 50000 in
theorem zg_GP_image_23_e (X : zv_X) (l0 : Nat) (M : zv_M) : zg_GP_image_23 X l0 M = zv_ob M 11 l0 (if (M.2.1 l0 2) = 0 then zg_GP_image_80 X l0 M else zv_ob M 11 l0 (zv_rf (M.2.2.2 l0 0) (fun p1 => zv_ob M 11 l0 (zv_rf (M.2.2.2 l0 1) (fun p2 => zv_ob M 9 p1 (zv_cv (zg_State_copyFrom_0 X p1 p2 M) (fun M3 => zv_ob M3 11 l0 (zv_rf (M3.2.2.2 l0 4) (fun p4 => zv_ob M3 11 l0 (zv_rf (M3.2.2.2 l0 0) (fun p5 => zv_ob M3 9 p5 (zv_rf (M3.2.2.2 p5 1) (fun p6 => zv_ob M3 11 l0 (zv_rf (M3.2.2.2 l0 0) (fun p7 => zv_ob M3 9 p7 (zv_ob M3 11 l0 (zv_rf (M3.2.2.2 l0 0) (fun p8 => zv_ob M3 9 p8 (zv_rf (M3.2.2.2 p8 3) (fun p9 => zv_ix M3 0 p9 0 (fun j10 => zv_ob M3 11 l0 (zv_rf (M3.2.2.2 l0 0) (fun p11 => zv_ob M3 9 p11 (zv_rf (M3.2.2.2 p11 3) (fun p12 => zv_ix M3 0 p12 1 (fun j13 => zv_ob M3 1 p4 (zv_cv (zg_Cover_over_0 X p4 p6 (M3.2.1 p7 2) (M3.2.1 p9 j10) (M3.2.1 p12 j13) M3) (fun M14 => zg_GP_image_80 X l0 M14)))))))))))))))))))))))))))) := (zR_step X _).trans rfl
set_option maxRecDepth 50000 in
theorem zg_GP_image_80_e (X : zv_X) (l0 : Nat) (M : zv_M) : zg_GP_image_80 X l0 M = zv_ob M 11 l0 (zv_rb (M.2.1 l0 2) M) := (zR_step X _).trans rfl
set_option maxRecDepth 50000 in
theorem zg_GP_look_0_e (X : zv_X) (l0 : Nat) (l1 : Int32) (M : zv_M) : zg_GP_look_0 X l0 l1 M = if l1 < 10 then zg_GP_look_36 X l0 l1 M else zv_ob M 11 l0 (zv_rf (M.2.2.2 l0 4) (fun p1 => zv_ob M 1 p1 (if (10 + (M.2.1 p1 2)) ≤ l1 then zg_GP_look_36 X l0 l1 M else zv_ob M 11 l0 (zv_rf (M.2.2.2 l0 4) (fun p2 => zv_ob M 1 p2 (zv_rf (M.2.2.2 p2 0) (fun p3 => zv_iq M p3 (l1 - 10) (fun j4 => zv_rf (M.2.2.2 p3 j4) (fun p5 => zv_ob M 5 p5 (some (some (.int (M.2.1 p5 3)), M))))))))))) := (zR_step X _).trans rfl
set_option maxRecDepth 50000 in
theorem zg_GP_look_36_e (X : zv_X) (l0 : Nat) (l1 : Int32) (M : zv_M) : zg_GP_look_36 X l0 l1 M = if l1 < 20 then zg_GP_look_61 X l0 l1 M else if 28 ≤ l1 then zg_GP_look_61 X l0 l1 M else zv_ob M 11 l0 (zv_rf (M.2.2.2 l0 0) (fun p1 => zv_ob M 9 p1 (zv_rf (M.2.2.2 p1 3) (fun p2 => zv_ix M 0 p2 (l1 - 20) (fun j3 => some (some (.int (M.2.1 p2 j3)), M)))))) := (zR_step X _).trans rfl
set_option maxRecDepth 50000 in
theorem zg_GP_look_61_e (X : zv_X) (l0 : Nat) (l1 : Int32) (M : zv_M) : zg_GP_look_61 X l0 l1 M = if (l1 : Int32).toInt < 0 ∨ 9 < (l1 : Int32).toInt then zg_GP_look_219 X M else zv_sw [116, 127, 135, 143, 159, 167, 175, 186, 197, 208] ((l1 : Int32).toInt - 0).toNat (fun l => zR X (zv_jmp 112 l [some (.ref l0), some (.int l1)] [] M)) := (zR_step X _).trans rfl
set_option maxRecDepth 50000 in
theorem zg_GP_look_116_e (X : zv_X) (l0 : Nat) (M : zv_M) : zg_GP_look_116 X l0 M = zv_ob M 11 l0 (zv_rf (M.2.2.2 l0 0) (fun p1 => zv_ob M 9 p1 (zv_rf (M.2.2.2 p1 0) (fun p2 => zv_ob M 4 p2 (some (some (.int (M.2.1 p2 2)), M)))))) := (zR_step X _).trans rfl
set_option maxRecDepth 50000 in
theorem zg_GP_look_127_e (X : zv_X) (l0 : Nat) (M : zv_M) : zg_GP_look_127 X l0 M = zv_ob M 11 l0 (zv_rf (M.2.2.2 l0 0) (fun p1 => zv_ob M 9 p1 (some (some (.int (M.2.1 p1 2)), M)))) := (zR_step X _).trans rfl
set_option maxRecDepth 50000 in
theorem zg_GP_look_135_e (X : zv_X) (l0 : Nat) (M : zv_M) : zg_GP_look_135 X l0 M = zv_ob M 11 l0 (zv_rf (M.2.2.2 l0 0) (fun p1 => zv_ob M 9 p1 (zv_ci (zg_State_waiting_0 X p1 M) (fun v3 M2 => some (some (.int v3), M2))))) := (zR_step X _).trans rfl
set_option maxRecDepth 50000 in
theorem zg_GP_look_143_e (X : zv_X) (l0 : Nat) (M : zv_M) : zg_GP_look_143 X l0 M = zv_ob M 11 l0 (zv_rf (M.2.2.2 l0 0) (fun p1 => zv_ob M 9 p1 (zv_ob M 11 l0 (zv_rf (M.2.2.2 l0 0) (fun p2 => zv_ob M 9 p2 (zv_ci (zg_State_standing_0 X p2 M) (fun v4 M3 => some (some (.int ((M.2.1 p1 2) - v4)), M3)))))))) := (zR_step X _).trans rfl
set_option maxRecDepth 50000 in
theorem zg_GP_look_159_e (X : zv_X) (l0 : Nat) (M : zv_M) : zg_GP_look_159 X l0 M = zv_ob M 11 l0 (zv_rf (M.2.2.2 l0 4) (fun p1 => zv_ob M 1 p1 (some (some (.int (M.2.1 p1 2)), M)))) := (zR_step X _).trans rfl
set_option maxRecDepth 50000 in
theorem zg_GP_look_167_e (X : zv_X) (l0 : Nat) (M : zv_M) : zg_GP_look_167 X l0 M = zv_ob M 11 l0 (zv_rf (M.2.2.2 l0 0) (fun p1 => zv_ob M 9 p1 (some (some (.int (M.2.1 p1 4)), M)))) := (zR_step X _).trans rfl
set_option maxRecDepth 50000 in
theorem zg_GP_look_175_e (X : zv_X) (l0 : Nat) (M : zv_M) : zg_GP_look_175 X l0 M = zv_ob M 11 l0 (zv_rf (M.2.2.2 l0 0) (fun p1 => zv_ob M 9 p1 (zv_rf (M.2.2.2 p1 5) (fun p2 => zv_ob M 0 p2 (some (some (.int (M.2.1 p2 2)), M)))))) := (zR_step X _).trans rfl
set_option maxRecDepth 50000 in
theorem zg_GP_look_186_e (X : zv_X) (l0 : Nat) (M : zv_M) : zg_GP_look_186 X l0 M = zv_ob M 11 l0 (zv_rf (M.2.2.2 l0 0) (fun p1 => zv_ob M 9 p1 (zv_rf (M.2.2.2 p1 5) (fun p2 => zv_ob M 0 p2 (some (some (.int (M.2.1 p2 3)), M)))))) := (zR_step X _).trans rfl
set_option maxRecDepth 50000 in
theorem zg_GP_look_197_e (X : zv_X) (l0 : Nat) (M : zv_M) : zg_GP_look_197 X l0 M = zv_ob M 11 l0 (zv_rf (M.2.2.2 l0 0) (fun p1 => zv_ob M 9 p1 (zv_rf (M.2.2.2 p1 7) (fun p2 => zv_ob M 6 p2 (some (some (.int (M.2.1 p2 2)), M)))))) := (zR_step X _).trans rfl
set_option maxRecDepth 50000 in
theorem zg_GP_look_208_e (X : zv_X) (l0 : Nat) (M : zv_M) : zg_GP_look_208 X l0 M = zv_ob M 11 l0 (zv_rf (M.2.2.2 l0 0) (fun p1 => zv_ob M 9 p1 (zv_rf (M.2.2.2 p1 7) (fun p2 => zv_ob M 6 p2 (some (some (.int (M.2.1 p2 4)), M)))))) := (zR_step X _).trans rfl
set_option maxRecDepth 50000 in
theorem zg_GP_look_219_e (X : zv_X) (M : zv_M) : zg_GP_look_219 X M = some (some (.int (-1)), M) := (zR_step X _).trans rfl
set_option maxRecDepth 50000 in
theorem zg_GP_buildAll_0_e (X : zv_X) (l0 : Nat) (M : zv_M) : zg_GP_buildAll_0 X l0 M = zv_ob M 11 l0 (zv_rf (M.2.2.2 l0 0) (fun p1 => zv_ob M 9 p1 (zv_cv (zg_State_standAll_0 X p1 M) (fun M2 => zv_ob M2 11 l0 (zv_rf (M2.2.2.2 l0 4) (fun p3 => zv_ob M2 11 l0 (zv_rf (M2.2.2.2 l0 0) (fun p4 => zv_ob M2 9 p4 (zv_rf (M2.2.2.2 p4 1) (fun p5 => zv_ob M2 11 l0 (zv_rf (M2.2.2.2 l0 0) (fun p6 => zv_ob M2 9 p6 (zv_ob M2 11 l0 (zv_rf (M2.2.2.2 l0 0) (fun p7 => zv_ob M2 9 p7 (zv_rf (M2.2.2.2 p7 3) (fun p8 => zv_ix M2 0 p8 0 (fun j9 => zv_ob M2 11 l0 (zv_rf (M2.2.2.2 l0 0) (fun p10 => zv_ob M2 9 p10 (zv_rf (M2.2.2.2 p10 3) (fun p11 => zv_ix M2 0 p11 1 (fun j12 => zv_ob M2 1 p3 (zv_cv (zg_Cover_over_0 X p3 p5 (M2.2.1 p6 2) (M2.2.1 p8 j9) (M2.2.1 p11 j12) M2) (fun M13 => some (none, M13)))))))))))))))))))))))))) := (zR_step X _).trans rfl
set_option maxRecDepth 50000 in
theorem zg_GP_isPiece_0_e (X : zv_X) (l0 : Nat) (l1 l2 : Int32) (M : zv_M) : zg_GP_isPiece_0 X l0 l1 l2 M = if l1 < 0 then zg_GP_isPiece_39 X M else zv_ob M 11 l0 (zv_rf (M.2.2.2 l0 4) (fun p1 => zv_ob M 1 p1 (if (M.2.1 p1 2) ≤ l1 then zg_GP_isPiece_39 X M else if l2 < 0 then zg_GP_isPiece_39 X M else zv_ob M 11 l0 (zv_rf (M.2.2.2 l0 4) (fun p2 => zv_ob M 1 p2 (zv_rf (M.2.2.2 p2 0) (fun p3 => zv_iq M p3 l1 (fun j4 => zv_rf (M.2.2.2 p3 j4) (fun p5 => zv_ob M 5 p5 (if (M.2.1 p5 3) ≤ l2 then zg_GP_isPiece_39 X M else zg_GP_isPiece_40 X 1 M)))))))))) := (zR_step X _).trans rfl
set_option maxRecDepth 50000 in
theorem zg_GP_isPiece_39_e (X : zv_X) (M : zv_M) : zg_GP_isPiece_39 X M = zg_GP_isPiece_40 X 0 M := (zR_step X _).trans rfl
set_option maxRecDepth 50000 in
theorem zg_GP_isPiece_40_e (X : zv_X) (s0 : Int32) (M : zv_M) : zg_GP_isPiece_40 X s0 M = zv_rb s0 M := (zR_step X _).trans rfl
set_option maxRecDepth 50000 in
theorem zg_GP_treeHeight_0_e (X : zv_X) (l0 : Nat) (M : zv_M) : zg_GP_treeHeight_0 X l0 M = zg_GP_treeHeight_4 X l0 0 1 M := (zR_step X _).trans rfl
set_option maxRecDepth 50000 in
theorem zg_GP_treeHeight_4_e (X : zv_X) (l0 : Nat) (l1 : Int32) (l2 : Int64) (M : zv_M) : zg_GP_treeHeight_4 X l0 l1 l2 M = zv_ob M 11 l0 (zv_rf (M.2.2.2 l0 0) (fun p1 => zv_ob M 9 p1 (if 0 ≤ (lg_cmp l2 (Int32.toInt64 (M.2.1 p1 2))) then zg_GP_treeHeight_43 X l1 M else if 300 ≤ l1 then zg_GP_treeHeight_43 X l1 M else zv_ob M 11 l0 (zv_rf (M.2.2.2 l0 0) (fun p2 => zv_ob M 9 p2 (zv_rf (M.2.2.2 p2 3) (fun p3 => zv_ix M 0 p3 4 (fun j4 => zg_GP_treeHeight_4 X l0 (l1 + 1) (l2 * (Int32.toInt64 (M.2.1 p3 j4))) M)))))))) := (zR_step X _).trans rfl
set_option maxRecDepth 50000 in
theorem zg_GP_treeHeight_43_e (X : zv_X) (l1 : Int32) (M : zv_M) : zg_GP_treeHeight_43 X l1 M = some (some (.int l1), M) := (zR_step X _).trans rfl
set_option maxRecDepth 50000 in
theorem zg_GP_piecesWith_0_e (X : zv_X) (l0 : Nat) (l1 : Int32) (M : zv_M) : zg_GP_piecesWith_0 X l0 l1 M = zv_ob M 11 l0 (zv_rf (M.2.2.2 l0 0) (fun p1 => zv_ob M 9 p1 (zv_rf (M.2.2.2 p1 0) (fun p2 => zv_ob M 11 l0 (zv_rf (M.2.2.2 l0 5) (fun p3 => zv_ob M 1 p3 (zv_rf (M.2.2.2 p3 0) (fun p4 => zv_iq M p4 0 (fun j5 => zv_rf (M.2.2.2 p4 j5) (fun p6 => zv_ob M 4 p2 (zv_ci (zg_Keys_below_0 X p2 l1 M) (fun v8 M7 => zv_ob M7 4 p2 (zv_rf (M7.2.2.2 p2 0) (fun p9 => zv_ob M7 11 l0 (zv_rf (M7.2.2.2 l0 7) (fun p10 => zv_ac M7 p9 0 p10 0 v8 0 (fun M11 => zv_ob M11 11 l0 (zv_rf (M11.2.2.2 l0 7) (fun p12 => zv_ix M11 0 p12 v8 (fun j13 => zv_ob (zv_wI M11 p12 j13 l1) 4 p2 (zv_rf ((zv_wI M11 p12 j13 l1).2.2.2 p2 0) (fun p14 => zv_ob (zv_wI M11 p12 j13 l1) 11 l0 (zv_rf ((zv_wI M11 p12 j13 l1).2.2.2 l0 7) (fun p15 => zv_ob (zv_wI M11 p12 j13 l1) 4 p2 (zv_ac (zv_wI M11 p12 j13 l1) p14 v8 p15 (v8 + 1) (((zv_wI M11 p12 j13 l1).2.1 p2 2) - v8) 0 (fun M16 => zg_GP_piecesWith_75 X l0 p2 p6 v8 0 M16)))))))))))))))))))))))))) := (zR_step X _).trans rfl
set_option maxRecDepth 50000 in
theorem zg_GP_piecesWith_75_e (X : zv_X) (l0 l2 l3 : Nat) (l4 l5 : Int32) (M : zv_M) : zg_GP_piecesWith_75 X l0 l2 l3 l4 l5 M = zv_ob M 5 l3 (if (M.2.1 l3 3) ≤ (l5 + 1) then zg_GP_piecesWith_106 X l0 l2 l3 l4 l5 M else zv_ob M 5 l3 (zv_rf (M.2.2.2 l3 4) (fun p1 => zv_ix M 0 p1 (l5 + 1) (fun j2 => if l4 ≤ (M.2.1 p1 j2) then zg_GP_piecesWith_106 X l0 l2 l3 l4 l5 M else zg_GP_piecesWith_75 X l0 l2 l3 l4 (l5 + 1) M)))) := (zR_step X _).trans rfl
set_option maxRecDepth 50000 in
theorem zg_GP_piecesWith_106_e (X : zv_X) (l0 l2 l3 : Nat) (l4 l5 : Int32) (M : zv_M) : zg_GP_piecesWith_106 X l0 l2 l3 l4 l5 M = zv_ob M 5 l3 (zv_rf (M.2.2.2 l3 4) (fun p1 => zv_ix M 0 p1 l5 (fun j2 => zg_GP_piecesWith_122 X l0 l2 l3 l4 l5 l5 (M.2.1 p1 j2) 0 M))) := (zR_step X _).trans rfl
set_option maxRecDepth 50000 in
theorem zg_GP_piecesWith_122_e (X : zv_X) (l0 l2 l3 : Nat) (l4 l5 l6 l7 l8 : Int32) (M : zv_M) : zg_GP_piecesWith_122 X l0 l2 l3 l4 l5 l6 l7 l8 M = zv_ob M 4 l2 (if (M.2.1 l2 2) < l8 then zg_GP_piecesWith_254 X l6 M else zv_ob M 4 l2 (if (M.2.1 l2 2) < l7 then zg_GP_piecesWith_254 X l6 M else zv_ob M 11 l0 (zv_rf (M.2.2.2 l0 5) (fun p1 => zv_ob M 1 p1 (zv_rf (M.2.2.2 p1 1) (fun p2 => zv_ob M 11 l0 (zv_rf (M.2.2.2 l0 7) (fun p3 => zv_ob M 4 l2 (zv_ob M 11 l0 (zv_rf (M.2.2.2 l0 0) (fun p4 => zv_ob M 9 p4 (zv_rf (M.2.2.2 p4 3) (fun p5 => zv_ix M 0 p5 0 (fun j6 => zv_ob M 2 p2 (zv_ci (zg_Fit_reach_0 X p2 p3 l7 ((M.2.1 l2 2) + 1) (M.2.1 p5 j6) M) (fun v8 M7 => zg_GP_piecesWith_178 X l0 l2 l3 l4 l5 (l6 + 1) (v8 + 1) l8 M7)))))))))))))))) := (zR_step X _).trans rfl
set_option maxRecDepth 50000 in
theorem zg_GP_piecesWith_178_e (X : zv_X) (l0 l2 l3 : Nat) (l4 l5 l6 l7 l8 : Int32) (M : zv_M) : zg_GP_piecesWith_178 X l0 l2 l3 l4 l5 l6 l7 l8 M = zv_ob M 5 l3 (if (M.2.1 l3 3) ≤ l5 then zg_GP_piecesWith_207 X l0 l2 l3 l4 l5 l6 l7 l8 M else zv_ob M 5 l3 (zv_rf (M.2.2.2 l3 4) (fun p1 => zv_ix M 0 p1 l5 (fun j2 => if (l7 - 1) ≤ (M.2.1 p1 j2) then zg_GP_piecesWith_207 X l0 l2 l3 l4 l5 l6 l7 l8 M else zg_GP_piecesWith_178 X l0 l2 l3 l4 (l5 + 1) l6 l7 l8 M)))) := (zR_step X _).trans rfl
set_option maxRecDepth 50000 in
theorem zg_GP_piecesWith_207_e (X : zv_X) (l0 l2 l3 : Nat) (l4 l5 l6 l7 l8 : Int32) (M : zv_M) : zg_GP_piecesWith_207 X l0 l2 l3 l4 l5 l6 l7 l8 M = if l7 ≤ l4 then zg_GP_piecesWith_248 X l0 l2 l3 l4 l5 l6 l7 l8 M else zv_ob M 5 l3 (if (M.2.1 l3 3) ≤ l5 then zg_GP_piecesWith_248 X l0 l2 l3 l4 l5 l6 l7 l8 M else zv_ob M 5 l3 (zv_rf (M.2.2.2 l3 4) (fun p1 => zv_ix M 0 p1 l5 (fun j2 => if (M.2.1 p1 j2) = (l7 - 1) then zv_ob M 5 l3 (some (some (.int ((l6 + (M.2.1 l3 3)) - l5)), M)) else zg_GP_piecesWith_248 X l0 l2 l3 l4 l5 l6 l7 l8 M)))) := (zR_step X _).trans rfl
set_option maxRecDepth 50000 in
theorem zg_GP_piecesWith_248_e (X : zv_X) (l0 l2 l3 : Nat) (l4 l5 l6 l7 l8 : Int32) (M : zv_M) : zg_GP_piecesWith_248 X l0 l2 l3 l4 l5 l6 l7 l8 M = zg_GP_piecesWith_122 X l0 l2 l3 l4 l5 l6 l7 (l8 + 1) M := (zR_step X _).trans rfl
set_option maxRecDepth 50000 in
theorem zg_GP_piecesWith_254_e (X : zv_X) (l6 : Int32) (M : zv_M) : zg_GP_piecesWith_254 X l6 M = some (some (.int l6), M) := (zR_step X _).trans rfl
set_option maxRecDepth 50000 in
theorem zg_GP_canBeKey_0_e (X : zv_X) (l0 : Int32) (M : zv_M) : zg_GP_canBeKey_0 X l0 M = if l0 < (-999999999) then zg_GP_canBeKey_18 X M else if 999999999 < l0 then zg_GP_canBeKey_18 X M else zg_GP_canBeKey_19 X 1 M := (zR_step X _).trans rfl
set_option maxRecDepth 50000 in
theorem zg_GP_canBeKey_18_e (X : zv_X) (M : zv_M) : zg_GP_canBeKey_18 X M = zg_GP_canBeKey_19 X 0 M := (zR_step X _).trans rfl
set_option maxRecDepth 50000 in
theorem zg_GP_canBeKey_19_e (X : zv_X) (s0 : Int32) (M : zv_M) : zg_GP_canBeKey_19 X s0 M = zv_rb s0 M := (zR_step X _).trans rfl
set_option maxRecDepth 50000 in
theorem zg_GP_canBeTold_0_e (X : zv_X) (l0 l1 : Int32) (M : zv_M) : zg_GP_canBeTold_0 X l0 l1 M = if l0 < 0 then zg_GP_canBeTold_32 X M else if 8 ≤ l0 then zg_GP_canBeTold_32 X M else zv_ox X 2 l0 (fun x2 => if l1 < x2 then zg_GP_canBeTold_32 X M else zv_ox X 3 l0 (fun x4 => if x4 < l1 then zg_GP_canBeTold_32 X M else zg_GP_canBeTold_33 X 1 M)) := (zR_step X _).trans rfl
set_option maxRecDepth 50000 in
theorem zg_GP_canBeTold_32_e (X : zv_X) (M : zv_M) : zg_GP_canBeTold_32 X M = zg_GP_canBeTold_33 X 0 M := (zR_step X _).trans rfl
set_option maxRecDepth 50000 in
theorem zg_GP_canBeTold_33_e (X : zv_X) (s0 : Int32) (M : zv_M) : zg_GP_canBeTold_33 X s0 M = zv_rb s0 M := (zR_step X _).trans rfl
set_option maxRecDepth 50000 in
theorem zg_GP_lessThan_0_e (X : zv_X) (l0 : Nat) (l1 l2 : Int32) (M : zv_M) : zg_GP_lessThan_0 X l0 l1 l2 M = zg_GP_lessThan_8 X l0 l2 0 l1 0 M := (zR_step X _).trans rfl
set_option maxRecDepth 50000 in
theorem zg_GP_lessThan_8_e (X : zv_X) (l0 : Nat) (l2 l3 l4 l5 : Int32) (M : zv_M) : zg_GP_lessThan_8 X l0 l2 l3 l4 l5 M = if 32 ≤ l5 then zg_GP_lessThan_55 X l3 M else if l4 ≤ l3 then zg_GP_lessThan_55 X l3 M else if (2 : Int32) = 0 then none else zv_ix M 0 l0 ((l3 + l4) / 2) (fun j1 => if l2 ≤ (M.2.1 l0 j1) then zg_GP_lessThan_45 X l0 l2 l3 l5 ((l3 + l4) / 2) M else zg_GP_lessThan_49 X l0 l2 (((l3 + l4) / 2) + 1) l4 l5 M) := (zR_step X _).trans rfl
set_option maxRecDepth 50000 in
theorem zg_GP_lessThan_45_e (X : zv_X) (l0 : Nat) (l2 l3 l5 l6 : Int32) (M : zv_M) : zg_GP_lessThan_45 X l0 l2 l3 l5 l6 M = zg_GP_lessThan_49 X l0 l2 l3 l6 l5 M := (zR_step X _).trans rfl
set_option maxRecDepth 50000 in
theorem zg_GP_lessThan_49_e (X : zv_X) (l0 : Nat) (l2 l3 l4 l5 : Int32) (M : zv_M) : zg_GP_lessThan_49 X l0 l2 l3 l4 l5 M = zg_GP_lessThan_8 X l0 l2 l3 l4 (l5 + 1) M := (zR_step X _).trans rfl
set_option maxRecDepth 50000 in
theorem zg_GP_lessThan_55_e (X : zv_X) (l3 : Int32) (M : zv_M) : zg_GP_lessThan_55 X l3 M = some (some (.int l3), M) := (zR_step X _).trans rfl
set_option maxRecDepth 50000 in
theorem zg_M_isIn_0_e (X : zv_X) (l0 l1 l2 : Int32) (M : zv_M) : zg_M_isIn_0 X l0 l1 l2 M = if l0 < l1 then zg_M_isIn_14 X M else if l2 < l0 then zg_M_isIn_14 X M else zg_M_isIn_15 X 1 M := (zR_step X _).trans rfl
set_option maxRecDepth 50000 in
theorem zg_M_isIn_14_e (X : zv_X) (M : zv_M) : zg_M_isIn_14 X M = zg_M_isIn_15 X 0 M := (zR_step X _).trans rfl
set_option maxRecDepth 50000 in
theorem zg_M_isIn_15_e (X : zv_X) (s0 : Int32) (M : zv_M) : zg_M_isIn_15 X s0 M = zv_rb s0 M := (zR_step X _).trans rfl
set_option maxRecDepth 50000 in
theorem zg_M_isNumber_0_e (X : zv_X) (l0 : Int32) (M : zv_M) : zg_M_isNumber_0 X l0 M = zv_ci (zg_M_isIn_0 X l0 (-999999999) 999999999 M) (fun v2 M1 => zv_rb v2 M1) := (zR_step X _).trans rfl
set_option maxRecDepth 50000 in
theorem zg_M_placeIn_0_e (X : zv_X) (l0 : Nat) (l1 l2 l3 : Int32) (M : zv_M) : zg_M_placeIn_0 X l0 l1 l2 l3 M = zg_M_placeIn_3 X l0 l1 l2 l3 0 M := (zR_step X _).trans rfl
set_option maxRecDepth 50000 in
theorem zg_M_placeIn_3_e (X : zv_X) (l0 : Nat) (l1 l2 l3 l4 : Int32) (M : zv_M) : zg_M_placeIn_3 X l0 l1 l2 l3 l4 M = if l2 ≤ l4 then zg_M_placeIn_28 X l4 M else zv_ob M 12 l0 (zv_rf (M.2.2.2 l0 0) (fun p1 => zv_ix M 0 p1 (l1 + l4) (fun j2 => if l3 ≤ (M.2.1 p1 j2) then zg_M_placeIn_28 X l4 M else zg_M_placeIn_3 X l0 l1 l2 l3 (l4 + 1) M))) := (zR_step X _).trans rfl
set_option maxRecDepth 50000 in
theorem zg_M_placeIn_28_e (X : zv_X) (l4 : Int32) (M : zv_M) : zg_M_placeIn_28 X l4 M = some (some (.int l4), M) := (zR_step X _).trans rfl
set_option maxRecDepth 50000 in
theorem zg_M_isAt_0_e (X : zv_X) (l0 : Nat) (l1 l2 l3 l4 : Int32) (M : zv_M) : zg_M_isAt_0 X l0 l1 l2 l3 l4 M = if l2 ≤ l3 then zg_M_isAt_22 X M else zv_ob M 12 l0 (zv_rf (M.2.2.2 l0 0) (fun p1 => zv_ix M 0 p1 (l1 + l3) (fun j2 => if (M.2.1 p1 j2) = l4 then zg_M_isAt_23 X 1 M else zg_M_isAt_22 X M))) := (zR_step X _).trans rfl
set_option maxRecDepth 50000 in
theorem zg_M_isAt_22_e (X : zv_X) (M : zv_M) : zg_M_isAt_22 X M = zg_M_isAt_23 X 0 M := (zR_step X _).trans rfl
set_option maxRecDepth 50000 in
theorem zg_M_isAt_23_e (X : zv_X) (s0 : Int32) (M : zv_M) : zg_M_isAt_23 X s0 M = zv_rb s0 M := (zR_step X _).trans rfl
set_option maxRecDepth 50000 in
theorem zg_M_count_0_e (X : zv_X) (l0 : Nat) (l1 : Int32) (M : zv_M) : zg_M_count_0 X l0 l1 M = zv_ob M 12 l0 (zv_rf (M.2.2.2 l0 0) (fun p1 => zv_ix M 0 p1 8 (fun j2 => zv_ob M 12 l0 (zv_ci (zg_M_placeIn_0 X l0 20 (M.2.1 p1 j2) l1 M) (fun v4 M3 => zv_ob M3 12 l0 (zv_rf (M3.2.2.2 l0 0) (fun p5 => zv_ix M3 0 p5 8 (fun j6 => zv_ob M3 12 l0 (zv_ci (zg_M_isAt_0 X l0 20 (M3.2.1 p5 j6) v4 l1 M3) (fun v8 M7 => if v8 = 0 then zg_M_count_44 X l0 l1 M7 else zv_ob M7 12 l0 (zv_rf (M7.2.2.2 l0 0) (fun p9 => zv_ix M7 0 p9 (320 + v4) (fun j10 => some (some (.int (M7.2.1 p9 j10)), M7)))))))))))))) := (zR_step X _).trans rfl
set_option maxRecDepth 50000 in
theorem zg_M_count_44_e (X : zv_X) (l0 : Nat) (l1 : Int32) (M : zv_M) : zg_M_count_44 X l0 l1 M = zv_ob M 12 l0 (zv_rf (M.2.2.2 l0 0) (fun p1 => zv_ix M 0 p1 9 (fun j2 => zv_ob M 12 l0 (zv_ci (zg_M_placeIn_0 X l0 620 (M.2.1 p1 j2) l1 M) (fun v4 M3 => zv_ob M3 12 l0 (zv_rf (M3.2.2.2 l0 0) (fun p5 => zv_ix M3 0 p5 9 (fun j6 => zv_ob M3 12 l0 (zv_ci (zg_M_isAt_0 X l0 620 (M3.2.1 p5 j6) v4 l1 M3) (fun v8 M7 => if v8 = 0 then zg_M_count_92 X M7 else zv_ob M7 12 l0 (zv_rf (M7.2.2.2 l0 0) (fun p9 => zv_ix M7 0 p9 (920 + v4) (fun j10 => zg_M_count_93 X (M7.2.1 p9 j10) M7))))))))))))) := (zR_step X _).trans rfl
set_option maxRecDepth 50000 in
theorem zg_M_count_92_e (X : zv_X) (M : zv_M) : zg_M_count_92 X M = zg_M_count_93 X 0 M := (zR_step X _).trans rfl
set_option maxRecDepth 50000 in
theorem zg_M_count_93_e (X : zv_X) (s0 : Int32) (M : zv_M) : zg_M_count_93 X s0 M = some (some (.int s0), M) := (zR_step X _).trans rfl
set_option maxRecDepth 50000 in
theorem zg_M_gone_0_e (X : zv_X) (l0 : Nat) (M : zv_M) : zg_M_gone_0 X l0 M = zg_M_gone_4 X l0 0 0 M := (zR_step X _).trans rfl
set_option maxRecDepth 50000 in
theorem zg_M_gone_4_e (X : zv_X) (l0 : Nat) (l1 l2 : Int32) (M : zv_M) : zg_M_gone_4 X l0 l1 l2 M = zv_ob M 12 l0 (zv_rf (M.2.2.2 l0 0) (fun p1 => zv_ix M 0 p1 8 (fun j2 => if (M.2.1 p1 j2) ≤ l2 then zg_M_gone_42 X l1 M else zv_ob M 12 l0 (zv_rf (M.2.2.2 l0 0) (fun p3 => zv_ix M 0 p3 (320 + l2) (fun j4 => if (M.2.1 p3 j4) = 0 then zg_M_gone_34 X l0 l2 1 l1 M else zg_M_gone_33 X l0 l2 l1 M)))))) := (zR_step X _).trans rfl
set_option maxRecDepth 50000 in
theorem zg_M_gone_33_e (X : zv_X) (l0 : Nat) (l2 s0 : Int32) (M : zv_M) : zg_M_gone_33 X l0 l2 s0 M = zg_M_gone_34 X l0 l2 0 s0 M := (zR_step X _).trans rfl
set_option maxRecDepth 50000 in
theorem zg_M_gone_34_e (X : zv_X) (l0 : Nat) (l2 s0 s1 : Int32) (M : zv_M) : zg_M_gone_34 X l0 l2 s0 s1 M = zg_M_gone_4 X l0 (s1 + s0) (l2 + 1) M := (zR_step X _).trans rfl
set_option maxRecDepth 50000 in
theorem zg_M_gone_42_e (X : zv_X) (l1 : Int32) (M : zv_M) : zg_M_gone_42 X l1 M = some (some (.int l1), M) := (zR_step X _).trans rfl
set_option maxRecDepth 50000 in
theorem zg_M_keys_0_e (X : zv_X) (l0 : Nat) (M : zv_M) : zg_M_keys_0 X l0 M = zv_ob M 12 l0 (zv_rf (M.2.2.2 l0 0) (fun p1 => zv_ix M 0 p1 8 (fun j2 => zv_ob M 12 l0 (zv_ci (zg_M_gone_0 X l0 M) (fun v4 M3 => zv_ob M3 12 l0 (zv_rf (M3.2.2.2 l0 0) (fun p5 => zv_ix M3 0 p5 9 (fun j6 => some (some (.int (((M.2.1 p1 j2) - v4) + (M3.2.1 p5 j6))), M3))))))))) := (zR_step X _).trans rfl
set_option maxRecDepth 50000 in
theorem zg_M_counts_0_e (X : zv_X) (l0 : Nat) (l1 l2 : Int32) (M : zv_M) : zg_M_counts_0 X l0 l1 l2 M = zv_ob M 12 l0 (zv_rf (M.2.2.2 l0 0) (fun p1 => zv_ix M 0 p1 8 (fun j2 => zv_ob M 12 l0 (zv_ci (zg_M_placeIn_0 X l0 20 (M.2.1 p1 j2) l1 M) (fun v4 M3 => zv_ob M3 12 l0 (zv_rf (M3.2.2.2 l0 0) (fun p5 => zv_ix M3 0 p5 8 (fun j6 => zv_ob M3 12 l0 (zv_ci (zg_M_isAt_0 X l0 20 (M3.2.1 p5 j6) v4 l1 M3) (fun v8 M7 => if v8 = 0 then zg_M_counts_45 X l0 l1 l2 M7 else zv_ob M7 12 l0 (zv_rf (M7.2.2.2 l0 0) (fun p9 => zv_ix M7 0 p9 (320 + v4) (fun j10 => some (none, zv_wI M7 p9 j10 l2)))))))))))))) := (zR_step X _).trans rfl
set_option maxRecDepth 50000 in
theorem zg_M_counts_45_e (X : zv_X) (l0 : Nat) (l1 l2 : Int32) (M : zv_M) : zg_M_counts_45 X l0 l1 l2 M = zv_ob M 12 l0 (zv_rf (M.2.2.2 l0 0) (fun p1 => zv_ix M 0 p1 9 (fun j2 => zv_ob M 12 l0 (zv_ci (zg_M_placeIn_0 X l0 620 (M.2.1 p1 j2) l1 M) (fun v4 M3 => zv_ob M3 12 l0 (zv_rf (M3.2.2.2 l0 0) (fun p5 => zv_ix M3 0 p5 9 (fun j6 => zv_ob M3 12 l0 (zv_ci (zg_M_isAt_0 X l0 620 (M3.2.1 p5 j6) v4 l1 M3) (fun v8 M7 => if v8 = 0 then zg_M_counts_181 X l0 l1 l2 v4 M7 else zv_ob M7 12 l0 (zv_rf (M7.2.2.2 l0 0) (fun p9 => zv_ix M7 0 p9 (920 + v4) (fun j10 => if l2 ≤ 0 then zg_M_counts_99 X l0 v4 (zv_wI M7 p9 j10 l2) else some (none, zv_wI M7 p9 j10 l2)))))))))))))) := (zR_step X _).trans rfl
set_option maxRecDepth 50000 in
theorem zg_M_counts_99_e (X : zv_X) (l0 : Nat) (l4 : Int32) (M : zv_M) : zg_M_counts_99 X l0 l4 M = zv_ob M 12 l0 (zv_rf (M.2.2.2 l0 0) (fun p1 => zv_ix M 0 p1 9 (fun j2 => zv_ix M 0 p1 9 (fun j3 => zg_M_counts_114 X l0 l4 (zv_wI M p1 j3 ((M.2.1 p1 j2) - 1)))))) := (zR_step X _).trans rfl
set_option maxRecDepth 50000 in
theorem zg_M_counts_114_e (X : zv_X) (l0 : Nat) (l5 : Int32) (M : zv_M) : zg_M_counts_114 X l0 l5 M = zv_ob M 12 l0 (zv_rf (M.2.2.2 l0 0) (fun p1 => zv_ix M 0 p1 9 (fun j2 => if (M.2.1 p1 j2) ≤ l5 then zg_M_counts_180 X M else zv_ob M 12 l0 (zv_rf (M.2.2.2 l0 0) (fun p3 => zv_ob M 12 l0 (zv_rf (M.2.2.2 l0 0) (fun p4 => zv_ix M 0 p4 ((620 + l5) + 1) (fun j5 => zv_ix M 0 p3 (620 + l5) (fun j6 => zv_ob (zv_wI M p3 j6 (M.2.1 p4 j5)) 12 l0 (zv_rf ((zv_wI M p3 j6 (M.2.1 p4 j5)).2.2.2 l0 0) (fun p7 => zv_ob (zv_wI M p3 j6 (M.2.1 p4 j5)) 12 l0 (zv_rf ((zv_wI M p3 j6 (M.2.1 p4 j5)).2.2.2 l0 0) (fun p8 => zv_ix (zv_wI M p3 j6 (M.2.1 p4 j5)) 0 p8 ((920 + l5) + 1) (fun j9 => zv_ix (zv_wI M p3 j6 (M.2.1 p4 j5)) 0 p7 (920 + l5) (fun j10 => zg_M_counts_114 X l0 (l5 + 1) (zv_wI (zv_wI M p3 j6 (M.2.1 p4 j5)) p7 j10 ((zv_wI M p3 j6 (M.2.1 p4 j5)).2.1 p8 j9))))))))))))))))) := (zR_step X _).trans rfl
set_option maxRecDepth 50000 in
theorem zg_M_counts_180_e (X : zv_X) (M : zv_M) : zg_M_counts_180 X M = some (none, M) := (zR_step X _).trans rfl
set_option maxRecDepth 50000 in
theorem zg_M_counts_181_e (X : zv_X) (l0 : Nat) (l1 l2 l4 : Int32) (M : zv_M) : zg_M_counts_181 X l0 l1 l2 l4 M = if l2 = 0 then some (none, M) else zg_M_counts_186 X l0 l1 l2 l4 M := (zR_step X _).trans rfl
set_option maxRecDepth 50000 in
theorem zg_M_counts_186_e (X : zv_X) (l0 : Nat) (l1 l2 l4 : Int32) (M : zv_M) : zg_M_counts_186 X l0 l1 l2 l4 M = zv_ob M 12 l0 (zv_rf (M.2.2.2 l0 0) (fun p1 => zv_ix M 0 p1 9 (fun j2 => zg_M_counts_195 X l0 l1 l2 l4 (M.2.1 p1 j2) M))) := (zR_step X _).trans rfl
set_option maxRecDepth 50000 in
theorem zg_M_counts_195_e (X : zv_X) (l0 : Nat) (l1 l2 l4 l5 : Int32) (M : zv_M) : zg_M_counts_195 X l0 l1 l2 l4 l5 M = if l5 ≤ l4 then zg_M_counts_256 X l0 l1 l2 l4 M else zv_ob M 12 l0 (zv_rf (M.2.2.2 l0 0) (fun p1 => zv_ob M 12 l0 (zv_rf (M.2.2.2 l0 0) (fun p2 => zv_ix M 0 p2 ((620 + l5) - 1) (fun j3 => zv_ix M 0 p1 (620 + l5) (fun j4 => zv_ob (zv_wI M p1 j4 (M.2.1 p2 j3)) 12 l0 (zv_rf ((zv_wI M p1 j4 (M.2.1 p2 j3)).2.2.2 l0 0) (fun p5 => zv_ob (zv_wI M p1 j4 (M.2.1 p2 j3)) 12 l0 (zv_rf ((zv_wI M p1 j4 (M.2.1 p2 j3)).2.2.2 l0 0) (fun p6 => zv_ix (zv_wI M p1 j4 (M.2.1 p2 j3)) 0 p6 ((920 + l5) - 1) (fun j7 => zv_ix (zv_wI M p1 j4 (M.2.1 p2 j3)) 0 p5 (920 + l5) (fun j8 => zg_M_counts_195 X l0 l1 l2 l4 (l5 + (-1)) (zv_wI (zv_wI M p1 j4 (M.2.1 p2 j3)) p5 j8 ((zv_wI M p1 j4 (M.2.1 p2 j3)).2.1 p6 j7)))))))))))))) := (zR_step X _).trans rfl
set_option maxRecDepth 50000 in
theorem zg_M_counts_256_e (X : zv_X) (l0 : Nat) (l1 l2 l4 : Int32) (M : zv_M) : zg_M_counts_256 X l0 l1 l2 l4 M = zv_ob M 12 l0 (zv_rf (M.2.2.2 l0 0) (fun p1 => zv_ix M 0 p1 (620 + l4) (fun j2 => zv_ob (zv_wI M p1 j2 l1) 12 l0 (zv_rf ((zv_wI M p1 j2 l1).2.2.2 l0 0) (fun p3 => zv_ix (zv_wI M p1 j2 l1) 0 p3 (920 + l4) (fun j4 => zv_ob (zv_wI (zv_wI M p1 j2 l1) p3 j4 l2) 12 l0 (zv_rf ((zv_wI (zv_wI M p1 j2 l1) p3 j4 l2).2.2.2 l0 0) (fun p5 => zv_ix (zv_wI (zv_wI M p1 j2 l1) p3 j4 l2) 0 p5 9 (fun j6 => zv_ix (zv_wI (zv_wI M p1 j2 l1) p3 j4 l2) 0 p5 9 (fun j7 => some (none, zv_wI (zv_wI (zv_wI M p1 j2 l1) p3 j4 l2) p5 j7 (((zv_wI (zv_wI M p1 j2 l1) p3 j4 l2).2.1 p5 j6) + 1)))))))))))) := (zR_step X _).trans rfl
set_option maxRecDepth 50000 in
theorem zg_M_laysAll_0_e (X : zv_X) (l0 : Nat) (M : zv_M) : zg_M_laysAll_0 X l0 M = zg_M_laysAll_6 X l0 0 0 0 M := (zR_step X _).trans rfl
set_option maxRecDepth 50000 in
theorem zg_M_laysAll_6_e (X : zv_X) (l0 : Nat) (l1 l2 l3 : Int32) (M : zv_M) : zg_M_laysAll_6 X l0 l1 l2 l3 M = zv_ob M 12 l0 (zv_rf (M.2.2.2 l0 0) (fun p1 => zv_ix M 0 p1 8 (fun j2 => if (M.2.1 p1 j2) < l3 then zg_M_laysAll_169 X l1 M else zg_M_laysAll_17 X l0 l1 l2 l3 M))) := (zR_step X _).trans rfl
set_option maxRecDepth 50000 in
theorem zg_M_laysAll_17_e (X : zv_X) (l0 : Nat) (l1 l2 l3 : Int32) (M : zv_M) : zg_M_laysAll_17 X l0 l1 l2 l3 M = zv_ob M 12 l0 (zv_rf (M.2.2.2 l0 0) (fun p1 => zv_ix M 0 p1 9 (fun j2 => if (M.2.1 p1 j2) ≤ l2 then zg_M_laysAll_102 X l0 l1 l2 l3 M else zv_ob M 12 l0 (zv_rf (M.2.2.2 l0 0) (fun p3 => zv_ix M 0 p3 8 (fun j4 => if l3 = (M.2.1 p3 j4) then zg_M_laysAll_61 X l0 l1 l2 l3 M else zv_ob M 12 l0 (zv_rf (M.2.2.2 l0 0) (fun p5 => zv_ix M 0 p5 (620 + l2) (fun j6 => zv_ob M 12 l0 (zv_rf (M.2.2.2 l0 0) (fun p7 => zv_ix M 0 p7 (20 + l3) (fun j8 => if (M.2.1 p7 j8) ≤ (M.2.1 p5 j6) then zg_M_laysAll_102 X l0 l1 l2 l3 M else zg_M_laysAll_61 X l0 l1 l2 l3 M)))))))))))) := (zR_step X _).trans rfl
set_option maxRecDepth 50000 in
theorem zg_M_laysAll_61_e (X : zv_X) (l0 : Nat) (l1 l2 l3 : Int32) (M : zv_M) : zg_M_laysAll_61 X l0 l1 l2 l3 M = zv_ob M 12 l0 (zv_rf (M.2.2.2 l0 4) (fun p1 => zv_ob M 12 l0 (zv_rf (M.2.2.2 l0 0) (fun p2 => zv_ix M 0 p2 (620 + l2) (fun j3 => zv_ix M 0 p1 l1 (fun j4 => zv_ob (zv_wI M p1 j4 (M.2.1 p2 j3)) 12 l0 (zv_rf ((zv_wI M p1 j4 (M.2.1 p2 j3)).2.2.2 l0 5) (fun p5 => zv_ob (zv_wI M p1 j4 (M.2.1 p2 j3)) 12 l0 (zv_rf ((zv_wI M p1 j4 (M.2.1 p2 j3)).2.2.2 l0 0) (fun p6 => zv_ix (zv_wI M p1 j4 (M.2.1 p2 j3)) 0 p6 (920 + l2) (fun j7 => zv_ix (zv_wI M p1 j4 (M.2.1 p2 j3)) 0 p5 l1 (fun j8 => zg_M_laysAll_17 X l0 (l1 + 1) (l2 + 1) l3 (zv_wI (zv_wI M p1 j4 (M.2.1 p2 j3)) p5 j8 ((zv_wI M p1 j4 (M.2.1 p2 j3)).2.1 p6 j7)))))))))))))) := (zR_step X _).trans rfl
set_option maxRecDepth 50000 in
theorem zg_M_laysAll_102_e (X : zv_X) (l0 : Nat) (l1 l2 l3 : Int32) (M : zv_M) : zg_M_laysAll_102 X l0 l1 l2 l3 M = zv_ob M 12 l0 (zv_rf (M.2.2.2 l0 0) (fun p1 => zv_ix M 0 p1 8 (fun j2 => if l3 = (M.2.1 p1 j2) then zg_M_laysAll_163 X l0 l1 l2 l3 M else zv_ob M 12 l0 (zv_rf (M.2.2.2 l0 0) (fun p3 => zv_ix M 0 p3 (320 + l3) (fun j4 => if (M.2.1 p3 j4) = 0 then zg_M_laysAll_163 X l0 l1 l2 l3 M else zg_M_laysAll_129 X l0 l1 l2 l3 M)))))) := (zR_step X _).trans rfl
set_option maxRecDepth 50000 in
theorem zg_M_laysAll_129_e (X : zv_X) (l0 : Nat) (l1 l2 l3 : Int32) (M : zv_M) : zg_M_laysAll_129 X l0 l1 l2 l3 M = zv_ob M 12 l0 (zv_rf (M.2.2.2 l0 4) (fun p1 => zv_ob M 12 l0 (zv_rf (M.2.2.2 l0 0) (fun p2 => zv_ix M 0 p2 (20 + l3) (fun j3 => zv_ix M 0 p1 l1 (fun j4 => zv_ob (zv_wI M p1 j4 (M.2.1 p2 j3)) 12 l0 (zv_rf ((zv_wI M p1 j4 (M.2.1 p2 j3)).2.2.2 l0 5) (fun p5 => zv_ob (zv_wI M p1 j4 (M.2.1 p2 j3)) 12 l0 (zv_rf ((zv_wI M p1 j4 (M.2.1 p2 j3)).2.2.2 l0 0) (fun p6 => zv_ix (zv_wI M p1 j4 (M.2.1 p2 j3)) 0 p6 (320 + l3) (fun j7 => zv_ix (zv_wI M p1 j4 (M.2.1 p2 j3)) 0 p5 l1 (fun j8 => zg_M_laysAll_163 X l0 (l1 + 1) l2 l3 (zv_wI (zv_wI M p1 j4 (M.2.1 p2 j3)) p5 j8 ((zv_wI M p1 j4 (M.2.1 p2 j3)).2.1 p6 j7)))))))))))))) := (zR_step X _).trans rfl
set_option maxRecDepth 50000 in
theorem zg_M_laysAll_163_e (X : zv_X) (l0 : Nat) (l1 l2 l3 : Int32) (M : zv_M) : zg_M_laysAll_163 X l0 l1 l2 l3 M = zg_M_laysAll_6 X l0 l1 l2 (l3 + 1) M := (zR_step X _).trans rfl
set_option maxRecDepth 50000 in
theorem zg_M_laysAll_169_e (X : zv_X) (l1 : Int32) (M : zv_M) : zg_M_laysAll_169 X l1 M = some (some (.int l1), M) := (zR_step X _).trans rfl
set_option maxRecDepth 50000 in
theorem zg_M_builds_0_e (X : zv_X) (l0 : Nat) (M : zv_M) : zg_M_builds_0 X l0 M = zv_ob M 12 l0 (zv_ci (zg_M_laysAll_0 X l0 M) (fun v2 M1 => zg_M_builds_7 X l0 v2 0 M1)) := (zR_step X _).trans rfl
set_option maxRecDepth 50000 in
theorem zg_M_builds_7_e (X : zv_X) (l0 : Nat) (l1 l2 : Int32) (M : zv_M) : zg_M_builds_7 X l0 l1 l2 M = if l1 ≤ l2 then zg_M_builds_49 X l0 l1 M else zv_ob M 12 l0 (zv_rf (M.2.2.2 l0 0) (fun p1 => zv_ob M 12 l0 (zv_rf (M.2.2.2 l0 4) (fun p2 => zv_ix M 0 p2 l2 (fun j3 => zv_ix M 0 p1 (20 + l2) (fun j4 => zv_ob (zv_wI M p1 j4 (M.2.1 p2 j3)) 12 l0 (zv_rf ((zv_wI M p1 j4 (M.2.1 p2 j3)).2.2.2 l0 0) (fun p5 => zv_ob (zv_wI M p1 j4 (M.2.1 p2 j3)) 12 l0 (zv_rf ((zv_wI M p1 j4 (M.2.1 p2 j3)).2.2.2 l0 5) (fun p6 => zv_ix (zv_wI M p1 j4 (M.2.1 p2 j3)) 0 p6 l2 (fun j7 => zv_ix (zv_wI M p1 j4 (M.2.1 p2 j3)) 0 p5 (320 + l2) (fun j8 => zg_M_builds_7 X l0 l1 (l2 + 1) (zv_wI (zv_wI M p1 j4 (M.2.1 p2 j3)) p5 j8 ((zv_wI M p1 j4 (M.2.1 p2 j3)).2.1 p6 j7)))))))))))))) := (zR_step X _).trans rfl
set_option maxRecDepth 50000 in
theorem zg_M_builds_49_e (X : zv_X) (l0 : Nat) (l1 : Int32) (M : zv_M) : zg_M_builds_49 X l0 l1 M = zv_ob M 12 l0 (zv_rf (M.2.2.2 l0 0) (fun p1 => zv_ix M 0 p1 8 (fun j2 => zv_ob (zv_wI M p1 j2 l1) 12 l0 (zv_rf ((zv_wI M p1 j2 l1).2.2.2 l0 0) (fun p3 => zv_ix (zv_wI M p1 j2 l1) 0 p3 9 (fun j4 => zv_ob (zv_wI (zv_wI M p1 j2 l1) p3 j4 0) 12 l0 (zv_rf ((zv_wI (zv_wI M p1 j2 l1) p3 j4 0).2.2.2 l0 0) (fun p5 => zv_ix (zv_wI (zv_wI M p1 j2 l1) p3 j4 0) 0 p5 10 (fun j6 => zv_ix (zv_wI (zv_wI M p1 j2 l1) p3 j4 0) 0 p5 10 (fun j7 => some (some (.int l1), zv_wI (zv_wI (zv_wI M p1 j2 l1) p3 j4 0) p5 j7 (((zv_wI (zv_wI M p1 j2 l1) p3 j4 0).2.1 p5 j6) + l1)))))))))))) := (zR_step X _).trans rfl
set_option maxRecDepth 50000 in
theorem zg_M_forgets_0_e (X : zv_X) (l0 : Nat) (M : zv_M) : zg_M_forgets_0 X l0 M = zv_ob M 12 l0 (zv_rf (M.2.2.2 l0 0) (fun p1 => zv_ix M 0 p1 11 (fun j2 => zv_ob (zv_wI M p1 j2 0) 12 l0 (zv_rf ((zv_wI M p1 j2 0).2.2.2 l0 0) (fun p3 => zv_ix (zv_wI M p1 j2 0) 0 p3 12 (fun j4 => some (none, zv_wI (zv_wI M p1 j2 0) p3 j4 0))))))) := (zR_step X _).trans rfl
set_option maxRecDepth 50000 in
theorem zg_M_build_0_e (X : zv_X) (l0 : Nat) (M : zv_M) : zg_M_build_0 X l0 M = zv_ob M 12 l0 (zv_cv (zg_M_forgets_0 X l0 M) (fun M1 => zv_ob M1 12 l0 (zv_ci (zg_M_builds_0 X l0 M1) (fun v3 M2 => some (some (.int v3), M2))))) := (zR_step X _).trans rfl
set_option maxRecDepth 50000 in
theorem zg_M_set_0_e (X : zv_X) (l0 : Nat) (l1 l2 : Int32) (M : zv_M) : zg_M_set_0 X l0 l1 l2 M = zv_ci (zg_M_isIn_0 X l1 0 7 M) (fun v2 M1 => if v2 = 0 then zv_rb 0 M1 else zg_M_set_12 X l0 l1 l2 M1) := (zR_step X _).trans rfl
set_option maxRecDepth 50000 in
theorem zg_M_set_12_e (X : zv_X) (l0 : Nat) (l1 l2 : Int32) (M : zv_M) : zg_M_set_12 X l0 l1 l2 M = if l1 = 3 then zg_M_set_23 X l0 l1 l2 M else if l1 = 6 then zg_M_set_23 X l0 l1 l2 M else zg_M_set_27 X l0 l1 l2 M := (zR_step X _).trans rfl
set_option maxRecDepth 50000 in
theorem zg_M_set_23_e (X : zv_X) (l0 : Nat) (l1 l2 : Int32) (M : zv_M) : zg_M_set_23 X l0 l1 l2 M = zg_M_set_47 X l0 l1 l2 1 M := (zR_step X _).trans rfl
set_option maxRecDepth 50000 in
theorem zg_M_set_27_e (X : zv_X) (l0 : Nat) (l1 l2 : Int32) (M : zv_M) : zg_M_set_27 X l0 l1 l2 M = if l1 = 4 then zg_M_set_47 X l0 l1 l2 2 M else zg_M_set_36 X l0 l1 l2 M := (zR_step X _).trans rfl
set_option maxRecDepth 50000 in
theorem zg_M_set_36_e (X : zv_X) (l0 : Nat) (l1 l2 : Int32) (M : zv_M) : zg_M_set_36 X l0 l1 l2 M = if l1 = 5 then zg_M_set_47 X l0 l1 l2 8 M else zg_M_set_46 X l0 l1 l2 M := (zR_step X _).trans rfl
set_option maxRecDepth 50000 in
theorem zg_M_set_46_e (X : zv_X) (l0 : Nat) (l1 l2 : Int32) (M : zv_M) : zg_M_set_46 X l0 l1 l2 M = zg_M_set_47 X l0 l1 l2 0 M := (zR_step X _).trans rfl
set_option maxRecDepth 50000 in
theorem zg_M_set_47_e (X : zv_X) (l0 : Nat) (l1 l2 s0 : Int32) (M : zv_M) : zg_M_set_47 X l0 l1 l2 s0 M = if 2 ≤ l1 then zg_M_set_58 X l0 l1 l2 s0 M else zg_M_set_101 X l0 l1 l2 s0 20 M := (zR_step X _).trans rfl
set_option maxRecDepth 50000 in
theorem zg_M_set_58_e (X : zv_X) (l0 : Nat) (l1 l2 l3 : Int32) (M : zv_M) : zg_M_set_58 X l0 l1 l2 l3 M = if l1 = 2 then zg_M_set_101 X l0 l1 l2 l3 50 M else zg_M_set_68 X l0 l1 l2 l3 M := (zR_step X _).trans rfl
set_option maxRecDepth 50000 in
theorem zg_M_set_68_e (X : zv_X) (l0 : Nat) (l1 l2 l3 : Int32) (M : zv_M) : zg_M_set_68 X l0 l1 l2 l3 M = if 5 ≤ l1 then zg_M_set_78 X l0 l1 l2 l3 M else zg_M_set_101 X l0 l1 l2 l3 99 M := (zR_step X _).trans rfl
set_option maxRecDepth 50000 in
theorem zg_M_set_78_e (X : zv_X) (l0 : Nat) (l1 l2 l3 : Int32) (M : zv_M) : zg_M_set_78 X l0 l1 l2 l3 M = if l1 = 5 then zg_M_set_101 X l0 l1 l2 l3 512 M else zg_M_set_89 X l0 l1 l2 l3 M := (zR_step X _).trans rfl
set_option maxRecDepth 50000 in
theorem zg_M_set_89_e (X : zv_X) (l0 : Nat) (l1 l2 l3 : Int32) (M : zv_M) : zg_M_set_89 X l0 l1 l2 l3 M = if l1 = 6 then zg_M_set_101 X l0 l1 l2 l3 4 M else zg_M_set_99 X l0 l1 l2 l3 M := (zR_step X _).trans rfl
set_option maxRecDepth 50000 in
theorem zg_M_set_99_e (X : zv_X) (l0 : Nat) (l1 l2 l3 : Int32) (M : zv_M) : zg_M_set_99 X l0 l1 l2 l3 M = zg_M_set_101 X l0 l1 l2 l3 99999 M := (zR_step X _).trans rfl
set_option maxRecDepth 50000 in
theorem zg_M_set_101_e (X : zv_X) (l0 : Nat) (l1 l2 l3 s0 : Int32) (M : zv_M) : zg_M_set_101 X l0 l1 l2 l3 s0 M = zv_ci (zg_M_isIn_0 X l2 l3 s0 M) (fun v2 M1 => if v2 = 0 then zv_rb 0 M1 else zg_M_set_115 X l0 l1 l2 M1) := (zR_step X _).trans rfl
set_option maxRecDepth 50000 in
theorem zg_M_set_115_e (X : zv_X) (l0 : Nat) (l1 l2 : Int32) (M : zv_M) : zg_M_set_115 X l0 l1 l2 M = zv_ob M 12 l0 (zv_rf (M.2.2.2 l0 0) (fun p1 => zv_ix M 0 p1 l1 (fun j2 => if 2 ≤ l1 then zg_M_set_132 X (zv_wI M p1 j2 l2) else zv_ob (zv_wI M p1 j2 l2) 12 l0 (zv_ci (zg_M_build_0 X l0 (zv_wI M p1 j2 l2)) (fun v4 M3 => zg_M_set_132 X M3))))) := (zR_step X _).trans rfl
set_option maxRecDepth 50000 in
theorem zg_M_set_132_e (X : zv_X) (M : zv_M) : zg_M_set_132 X M = zv_rb 1 M := (zR_step X _).trans rfl
set_option maxRecDepth 50000 in
theorem zg_M_pushes_0_e (X : zv_X) (l0 : Nat) (l1 l2 l3 l4 : Int32) (M : zv_M) : zg_M_pushes_0 X l0 l1 l2 l3 l4 M = zv_ob M 12 l0 (zv_rf (M.2.2.2 l0 0) (fun p1 => zv_ix M 0 p1 l1 (fun j2 => if (M.2.1 p1 j2) = 20 then zg_M_pushes_14 X l0 l1 l2 l3 l4 l2 M else zg_M_pushes_55 X l0 l1 l2 l3 l4 M))) := (zR_step X _).trans rfl
set_option maxRecDepth 50000 in
theorem zg_M_pushes_14_e (X : zv_X) (l0 : Nat) (l1 l2 l3 l4 l5 : Int32) (M : zv_M) : zg_M_pushes_14 X l0 l1 l2 l3 l4 l5 M = if (l2 + 38) ≤ l5 then zg_M_pushes_45 X l0 l1 l2 l3 l4 M else zv_ob M 12 l0 (zv_rf (M.2.2.2 l0 0) (fun p1 => zv_ob M 12 l0 (zv_rf (M.2.2.2 l0 0) (fun p2 => zv_ix M 0 p2 (l5 + 2) (fun j3 => zv_ix M 0 p1 l5 (fun j4 => zg_M_pushes_14 X l0 l1 l2 l3 l4 (l5 + 1) (zv_wI M p1 j4 (M.2.1 p2 j3)))))))) := (zR_step X _).trans rfl
set_option maxRecDepth 50000 in
theorem zg_M_pushes_45_e (X : zv_X) (l0 : Nat) (l1 l2 l3 l4 : Int32) (M : zv_M) : zg_M_pushes_45 X l0 l1 l2 l3 l4 M = zv_ob M 12 l0 (zv_rf (M.2.2.2 l0 0) (fun p1 => zv_ix M 0 p1 l1 (fun j2 => zv_ix M 0 p1 l1 (fun j3 => zg_M_pushes_55 X l0 l1 l2 l3 l4 (zv_wI M p1 j3 ((M.2.1 p1 j2) - 1)))))) := (zR_step X _).trans rfl
set_option maxRecDepth 50000 in
theorem zg_M_pushes_55_e (X : zv_X) (l0 : Nat) (l1 l2 l3 l4 : Int32) (M : zv_M) : zg_M_pushes_55 X l0 l1 l2 l3 l4 M = zv_ob M 12 l0 (zv_rf (M.2.2.2 l0 0) (fun p1 => zv_ob M 12 l0 (zv_rf (M.2.2.2 l0 0) (fun p2 => zv_ix M 0 p2 l1 (fun j3 => zv_ix M 0 p1 (l2 + (2 * (M.2.1 p2 j3))) (fun j4 => zv_ob (zv_wI M p1 j4 l3) 12 l0 (zv_rf ((zv_wI M p1 j4 l3).2.2.2 l0 0) (fun p5 => zv_ob (zv_wI M p1 j4 l3) 12 l0 (zv_rf ((zv_wI M p1 j4 l3).2.2.2 l0 0) (fun p6 => zv_ix (zv_wI M p1 j4 l3) 0 p6 l1 (fun j7 => zv_ix (zv_wI M p1 j4 l3) 0 p5 ((l2 + (2 * ((zv_wI M p1 j4 l3).2.1 p6 j7))) + 1) (fun j8 => zv_ob (zv_wI (zv_wI M p1 j4 l3) p5 j8 l4) 12 l0 (zv_rf ((zv_wI (zv_wI M p1 j4 l3) p5 j8 l4).2.2.2 l0 0) (fun p9 => zv_ix (zv_wI (zv_wI M p1 j4 l3) p5 j8 l4) 0 p9 l1 (fun j10 => zv_ix (zv_wI (zv_wI M p1 j4 l3) p5 j8 l4) 0 p9 l1 (fun j11 => some (none, zv_wI (zv_wI (zv_wI M p1 j4 l3) p5 j8 l4) p9 j11 (((zv_wI (zv_wI M p1 j4 l3) p5 j8 l4).2.1 p9 j10) + 1)))))))))))))))))) := (zR_step X _).trans rfl
set_option maxRecDepth 50000 in
theorem zg_M_acts_0_e (X : zv_X) (l0 : Nat) (l1 l2 : Int32) (M : zv_M) : zg_M_acts_0 X l0 l1 l2 M = zv_ob M 12 l0 (zv_cv (zg_M_pushes_0 X l0 11 1220 l1 l2 M) (fun M1 => zv_ob M1 12 l0 (zv_rf (M1.2.2.2 l0 0) (fun p2 => zv_ix M1 0 p2 12 (fun j3 => some (none, zv_wI M1 p2 j3 0)))))) := (zR_step X _).trans rfl
set_option maxRecDepth 50000 in
theorem zg_M_insert_0_e (X : zv_X) (l0 : Nat) (l1 : Int32) (M : zv_M) : zg_M_insert_0 X l0 l1 M = zv_ci (zg_M_isNumber_0 X l1 M) (fun v2 M1 => if v2 = 0 then some (some (.int (-1)), M1) else zg_M_insert_9 X l0 l1 M1) := (zR_step X _).trans rfl
set_option maxRecDepth 50000 in
theorem zg_M_insert_9_e (X : zv_X) (l0 : Nat) (l1 : Int32) (M : zv_M) : zg_M_insert_9 X l0 l1 M = zv_ob M 12 l0 (zv_ci (zg_M_count_0 X l0 l1 M) (fun v2 M1 => if v2 = 99 then zg_M_insert_35 X M1 else if v2 = 0 then zv_ob M1 12 l0 (zv_ci (zg_M_keys_0 X l0 M1) (fun v4 M3 => if v4 = 300 then zg_M_insert_35 X M3 else zg_M_insert_37 X l0 l1 v2 M3)) else zg_M_insert_37 X l0 l1 v2 M1)) := (zR_step X _).trans rfl
set_option maxRecDepth 50000 in
theorem zg_M_insert_35_e (X : zv_X) (M : zv_M) : zg_M_insert_35 X M = some (some (.int (-1)), M) := (zR_step X _).trans rfl
set_option maxRecDepth 50000 in
theorem zg_M_insert_37_e (X : zv_X) (l0 : Nat) (l1 l2 : Int32) (M : zv_M) : zg_M_insert_37 X l0 l1 l2 M = zv_ob M 12 l0 (zv_cv (zg_M_counts_0 X l0 l1 (l2 + 1) M) (fun M1 => zv_ob M1 12 l0 (zv_cv (zg_M_acts_0 X l0 l1 1 M1) (fun M2 => if l2 = 0 then zv_ob M2 12 l0 (zv_rf (M2.2.2.2 l0 0) (fun p3 => zv_ix M2 0 p3 9 (fun j4 => zv_ob M2 12 l0 (zv_rf (M2.2.2.2 l0 0) (fun p5 => zv_ix M2 0 p5 2 (fun j6 => if (M2.2.1 p3 j4) ≤ (M2.2.1 p5 j6) then zg_M_insert_109 X l2 M2 else zv_ob M2 12 l0 (zv_rf (M2.2.2.2 l0 0) (fun p7 => zv_ix M2 0 p7 9 (fun j8 => zv_ob M2 12 l0 (zv_rf (M2.2.2.2 l0 0) (fun p9 => zv_ix M2 0 p9 9 (fun j10 => zv_ob M2 12 l0 (zv_ci (zg_M_placeIn_0 X l0 620 (M2.2.1 p9 j10) l1 M2) (fun v12 M11 => zv_ob M11 12 l0 (zv_ci (zg_M_isAt_0 X l0 620 (M2.2.1 p7 j8) v12 l1 M11) (fun v14 M13 => if v14 = 0 then zg_M_insert_109 X l2 M13 else zv_ob M13 12 l0 (zv_ci (zg_M_builds_0 X l0 M13) (fun v16 M15 => zg_M_insert_109 X l2 M15)))))))))))))))))) else zg_M_insert_109 X l2 M2)))) := (zR_step X _).trans rfl
set_option maxRecDepth 50000 in
theorem zg_M_insert_109_e (X : zv_X) (l2 : Int32) (M : zv_M) : zg_M_insert_109 X l2 M = some (some (.int (l2 + 1)), M) := (zR_step X _).trans rfl
set_option maxRecDepth 50000 in
theorem zg_M_remove_0_e (X : zv_X) (l0 : Nat) (l1 : Int32) (M : zv_M) : zg_M_remove_0 X l0 l1 M = zv_ob M 12 l0 (zv_ci (zg_M_count_0 X l0 l1 M) (fun v2 M1 => if v2 = 0 then some (some (.int (-1)), M1) else zg_M_remove_12 X l0 l1 v2 M1)) := (zR_step X _).trans rfl
set_option maxRecDepth 50000 in
theorem zg_M_remove_12_e (X : zv_X) (l0 : Nat) (l1 l2 : Int32) (M : zv_M) : zg_M_remove_12 X l0 l1 l2 M = zv_ob M 12 l0 (zv_cv (zg_M_counts_0 X l0 l1 (l2 - 1) M) (fun M1 => zv_ob M1 12 l0 (zv_cv (zg_M_acts_0 X l0 l1 (-1) M1) (fun M2 => some (some (.int (l2 - 1)), M2))))) := (zR_step X _).trans rfl
set_option maxRecDepth 50000 in
theorem zg_M_undo_0_e (X : zv_X) (l0 : Nat) (l1 : Int32) (M : zv_M) : zg_M_undo_0 X l0 l1 M = if l1 = 0 then zg_M_undo_9 X l0 l1 M else zg_M_undo_11 X l0 l1 11 M := (zR_step X _).trans rfl
set_option maxRecDepth 50000 in
theorem zg_M_undo_9_e (X : zv_X) (l0 : Nat) (l1 : Int32) (M : zv_M) : zg_M_undo_9 X l0 l1 M = zg_M_undo_11 X l0 l1 12 M := (zR_step X _).trans rfl
set_option maxRecDepth 50000 in
theorem zg_M_undo_11_e (X : zv_X) (l0 : Nat) (l1 s0 : Int32) (M : zv_M) : zg_M_undo_11 X l0 l1 s0 M = if l1 = 0 then zg_M_undo_22 X l0 l1 s0 M else zg_M_undo_25 X l0 l1 s0 1220 M := (zR_step X _).trans rfl
set_option maxRecDepth 50000 in
theorem zg_M_undo_22_e (X : zv_X) (l0 : Nat) (l1 l2 : Int32) (M : zv_M) : zg_M_undo_22 X l0 l1 l2 M = zg_M_undo_25 X l0 l1 l2 1260 M := (zR_step X _).trans rfl
set_option maxRecDepth 50000 in
theorem zg_M_undo_25_e (X : zv_X) (l0 : Nat) (l1 l2 s0 : Int32) (M : zv_M) : zg_M_undo_25 X l0 l1 l2 s0 M = zv_ob M 12 l0 (zv_rf (M.2.2.2 l0 0) (fun p1 => zv_ix M 0 p1 l2 (fun j2 => if (M.2.1 p1 j2) = 0 then some (some (.int (-1000000001)), M) else zg_M_undo_38 X l0 l1 l2 s0 M))) := (zR_step X _).trans rfl
set_option maxRecDepth 50000 in
theorem zg_M_undo_38_e (X : zv_X) (l0 : Nat) (l1 l2 l3 : Int32) (M : zv_M) : zg_M_undo_38 X l0 l1 l2 l3 M = zv_ob M 12 l0 (zv_rf (M.2.2.2 l0 0) (fun p1 => zv_ix M 0 p1 l2 (fun j2 => zv_ix M 0 p1 l2 (fun j3 => zv_ob (zv_wI M p1 j3 ((M.2.1 p1 j2) - 1)) 12 l0 (zv_rf ((zv_wI M p1 j3 ((M.2.1 p1 j2) - 1)).2.2.2 l0 0) (fun p4 => zv_ob (zv_wI M p1 j3 ((M.2.1 p1 j2) - 1)) 12 l0 (zv_rf ((zv_wI M p1 j3 ((M.2.1 p1 j2) - 1)).2.2.2 l0 0) (fun p5 => zv_ix (zv_wI M p1 j3 ((M.2.1 p1 j2) - 1)) 0 p5 l2 (fun j6 => zv_ix (zv_wI M p1 j3 ((M.2.1 p1 j2) - 1)) 0 p4 (l3 + (2 * ((zv_wI M p1 j3 ((M.2.1 p1 j2) - 1)).2.1 p5 j6))) (fun j7 => zv_ob (zv_wI M p1 j3 ((M.2.1 p1 j2) - 1)) 12 l0 (zv_rf ((zv_wI M p1 j3 ((M.2.1 p1 j2) - 1)).2.2.2 l0 0) (fun p8 => zv_ob (zv_wI M p1 j3 ((M.2.1 p1 j2) - 1)) 12 l0 (zv_rf ((zv_wI M p1 j3 ((M.2.1 p1 j2) - 1)).2.2.2 l0 0) (fun p9 => zv_ix (zv_wI M p1 j3 ((M.2.1 p1 j2) - 1)) 0 p9 l2 (fun j10 => zv_ix (zv_wI M p1 j3 ((M.2.1 p1 j2) - 1)) 0 p8 ((l3 + (2 * ((zv_wI M p1 j3 ((M.2.1 p1 j2) - 1)).2.1 p9 j10))) + 1) (fun j11 => if l1 = 0 then zg_M_undo_94 X l0 l1 ((zv_wI M p1 j3 ((M.2.1 p1 j2) - 1)).2.1 p4 j7) ((zv_wI M p1 j3 ((M.2.1 p1 j2) - 1)).2.1 p8 j11) l0 (zv_wI M p1 j3 ((M.2.1 p1 j2) - 1)) else zg_M_undo_96 X l0 l1 ((zv_wI M p1 j3 ((M.2.1 p1 j2) - 1)).2.1 p4 j7) ((zv_wI M p1 j3 ((M.2.1 p1 j2) - 1)).2.1 p8 j11) 12 l0 (zv_wI M p1 j3 ((M.2.1 p1 j2) - 1)))))))))))))))))) := (zR_step X _).trans rfl
set_option maxRecDepth 50000 in
theorem zg_M_undo_94_e (X : zv_X) (l0 : Nat) (l1 l4 l5 : Int32) (s0 : Nat) (M : zv_M) : zg_M_undo_94 X l0 l1 l4 l5 s0 M = zg_M_undo_96 X l0 l1 l4 l5 11 s0 M := (zR_step X _).trans rfl
