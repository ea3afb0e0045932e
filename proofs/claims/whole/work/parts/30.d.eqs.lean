/-! blocks 260 to 390 -/
set_option maxRecDepth 50000 in
theorem zg_Teller_stands_15_e (X : zv_X) (l0 l1 : Nat) (l2 l4 : Int32) (M : zv_M) : zg_Teller_stands_15 X l0 l1 l2 l4 M = if l1 = 90 then none else if 20 ≤ l1 ∧ l1 < 27 ∧ 22 = 22 then zv_ci (zg_Str_length_0 X l1 M) (fun v2 M1 => if v2 ≤ l4 then zg_Teller_stands_50 X M1 else zv_ob M1 10 l0 (zv_rf (M1.2.2.2 l0 0) (fun p3 => zv_ix M1 2 p3 (l2 + l4) (fun j4 => if l1 = 90 then none else if 20 ≤ l1 ∧ l1 < 27 ∧ 22 = 22 then zv_ci (zg_Str_charAt_0 X l1 l4 M1) (fun v6 M5 => if (M1.2.1 p3 j4) = v6 then zg_Teller_stands_44 X l0 l1 l2 l4 M5 else zv_rb 0 M5) else none)))) else none := (zR_step X _).trans rfl
set_option maxRecDepth 50000 in
theorem zg_Teller_stands_44_e (X : zv_X) (l0 l1 : Nat) (l2 l4 : Int32) (M : zv_M) : zg_Teller_stands_44 X l0 l1 l2 l4 M = zg_Teller_stands_15 X l0 l1 l2 (l4 + 1) M := (zR_step X _).trans rfl
set_option maxRecDepth 50000 in
theorem zg_Teller_stands_50_e (X : zv_X) (M : zv_M) : zg_Teller_stands_50 X M = zv_rb 1 M := (zR_step X _).trans rfl
set_option maxRecDepth 50000 in
theorem zg_Teller_isLetter_0_e (X : zv_X) (l0 : Nat) (l1 : Int32) (M : zv_M) : zg_Teller_isLetter_0 X l0 l1 M = zv_ob M 10 l0 (zv_rf (M.2.2.2 l0 0) (fun p1 => zv_ix M 2 p1 l1 (fun j2 => if (M.2.1 p1 j2) < 97 then zg_Teller_isLetter_22 X l0 l1 M else zv_ob M 10 l0 (zv_rf (M.2.2.2 l0 0) (fun p3 => zv_ix M 2 p3 l1 (fun j4 => if (M.2.1 p3 j4) ≤ 122 then zg_Teller_isLetter_44 X M else zg_Teller_isLetter_22 X l0 l1 M)))))) := (zR_step X _).trans rfl
set_option maxRecDepth 50000 in
theorem zg_Teller_isLetter_22_e (X : zv_X) (l0 : Nat) (l1 : Int32) (M : zv_M) : zg_Teller_isLetter_22 X l0 l1 M = zv_ob M 10 l0 (zv_rf (M.2.2.2 l0 0) (fun p1 => zv_ix M 2 p1 l1 (fun j2 => if (M.2.1 p1 j2) < 65 then zg_Teller_isLetter_48 X M else zv_ob M 10 l0 (zv_rf (M.2.2.2 l0 0) (fun p3 => zv_ix M 2 p3 l1 (fun j4 => if 90 < (M.2.1 p3 j4) then zg_Teller_isLetter_48 X M else zg_Teller_isLetter_44 X M)))))) := (zR_step X _).trans rfl
set_option maxRecDepth 50000 in
theorem zg_Teller_isLetter_44_e (X : zv_X) (M : zv_M) : zg_Teller_isLetter_44 X M = zg_Teller_isLetter_49 X 1 M := (zR_step X _).trans rfl
set_option maxRecDepth 50000 in
theorem zg_Teller_isLetter_48_e (X : zv_X) (M : zv_M) : zg_Teller_isLetter_48 X M = zg_Teller_isLetter_49 X 0 M := (zR_step X _).trans rfl
set_option maxRecDepth 50000 in
theorem zg_Teller_isLetter_49_e (X : zv_X) (s0 : Int32) (M : zv_M) : zg_Teller_isLetter_49 X s0 M = zv_rb s0 M := (zR_step X _).trans rfl
set_option maxRecDepth 50000 in
theorem zg_Teller_isDigit_0_e (X : zv_X) (l0 : Nat) (l1 : Int32) (M : zv_M) : zg_Teller_isDigit_0 X l0 l1 M = zv_ob M 10 l0 (zv_rf (M.2.2.2 l0 0) (fun p1 => zv_ix M 2 p1 l1 (fun j2 => if (M.2.1 p1 j2) < 48 then zg_Teller_isDigit_26 X M else zv_ob M 10 l0 (zv_rf (M.2.2.2 l0 0) (fun p3 => zv_ix M 2 p3 l1 (fun j4 => if 57 < (M.2.1 p3 j4) then zg_Teller_isDigit_26 X M else zg_Teller_isDigit_27 X 1 M)))))) := (zR_step X _).trans rfl
set_option maxRecDepth 50000 in
theorem zg_Teller_isDigit_26_e (X : zv_X) (M : zv_M) : zg_Teller_isDigit_26 X M = zg_Teller_isDigit_27 X 0 M := (zR_step X _).trans rfl
set_option maxRecDepth 50000 in
theorem zg_Teller_isDigit_27_e (X : zv_X) (s0 : Int32) (M : zv_M) : zg_Teller_isDigit_27 X s0 M = zv_rb s0 M := (zR_step X _).trans rfl
set_option maxRecDepth 50000 in
theorem zg_Teller_keyword_0_e (X : zv_X) (l0 : Int32) (M : zv_M) : zg_Teller_keyword_0 X l0 M = if (l0 : Int32).toInt < 0 ∨ 5 < (l0 : Int32).toInt then zg_Teller_keyword_58 X M else zv_sw [40, 43, 46, 49, 52, 55] ((l0 : Int32).toInt - 0).toNat (fun l => zR X (zv_jmp 80 l [some (.int l0)] [] M)) := (zR_step X _).trans rfl
set_option maxRecDepth 50000 in
theorem zg_Teller_keyword_40_e (X : zv_X) (M : zv_M) : zg_Teller_keyword_40 X M = some (some (.retAddr 20), M) := (zR_step X _).trans rfl
set_option maxRecDepth 50000 in
theorem zg_Teller_keyword_43_e (X : zv_X) (M : zv_M) : zg_Teller_keyword_43 X M = some (some (.retAddr 21), M) := (zR_step X _).trans rfl
set_option maxRecDepth 50000 in
theorem zg_Teller_keyword_46_e (X : zv_X) (M : zv_M) : zg_Teller_keyword_46 X M = some (some (.retAddr 22), M) := (zR_step X _).trans rfl
set_option maxRecDepth 50000 in
theorem zg_Teller_keyword_49_e (X : zv_X) (M : zv_M) : zg_Teller_keyword_49 X M = some (some (.retAddr 23), M) := (zR_step X _).trans rfl
set_option maxRecDepth 50000 in
theorem zg_Teller_keyword_52_e (X : zv_X) (M : zv_M) : zg_Teller_keyword_52 X M = some (some (.retAddr 24), M) := (zR_step X _).trans rfl
set_option maxRecDepth 50000 in
theorem zg_Teller_keyword_55_e (X : zv_X) (M : zv_M) : zg_Teller_keyword_55 X M = some (some (.retAddr 25), M) := (zR_step X _).trans rfl
set_option maxRecDepth 50000 in
theorem zg_Teller_keyword_58_e (X : zv_X) (M : zv_M) : zg_Teller_keyword_58 X M = some (some (.retAddr 26), M) := (zR_step X _).trans rfl
set_option maxRecDepth 50000 in
theorem zg_GP_init_0_e (X : zv_X) (l0 : Nat) (M : zv_M) : zg_GP_init_0 X l0 M = zv_ob (zv_mk M (.inr 9)) 9 M.1.length (zv_cv (zg_State_init_0 X M.1.length (zv_mk M (.inr 9))) (fun M1 => zv_ob M1 11 l0 (zv_ob (zv_mk (zv_wP M1 l0 0 (some M.1.length)) (.inr 9)) 9 ((zv_wP M1 l0 0 (some M.1.length)).1.length) (zv_cv (zg_State_init_0 X ((zv_wP M1 l0 0 (some M.1.length)).1.length) (zv_mk (zv_wP M1 l0 0 (some M.1.length)) (.inr 9))) (fun M2 => zv_ob M2 11 l0 (zv_ob (zv_wP M2 l0 1 (some ((zv_wP M1 l0 0 (some M.1.length)).1.length))) 11 l0 (if 0 = 0 ∨ 0 = 1 then zv_ob (zv_mk (zv_wI (zv_wP M2 l0 1 (some ((zv_wP M1 l0 0 (some M.1.length)).1.length))) l0 2 0) (.inr 10)) 10 ((zv_wI (zv_wP M2 l0 1 (some ((zv_wP M1 l0 0 (some M.1.length)).1.length))) l0 2 0).1.length) (zv_cv (zg_Teller_init_0 X ((zv_wI (zv_wP M2 l0 1 (some ((zv_wP M1 l0 0 (some M.1.length)).1.length))) l0 2 0).1.length) (zv_mk (zv_wI (zv_wP M2 l0 1 (some ((zv_wP M1 l0 0 (some M.1.length)).1.length))) l0 2 0) (.inr 10))) (fun M3 => zv_ob M3 11 l0 (zv_ob (zv_mk (zv_wP M3 l0 3 (some ((zv_wI (zv_wP M2 l0 1 (some ((zv_wP M1 l0 0 (some M.1.length)).1.length))) l0 2 0).1.length))) (.inr 1)) 1 ((zv_wP M3 l0 3 (some ((zv_wI (zv_wP M2 l0 1 (some ((zv_wP M1 l0 0 (some M.1.length)).1.length))) l0 2 0).1.length))).1.length) (zv_cv (zg_Cover_init_0 X ((zv_wP M3 l0 3 (some ((zv_wI (zv_wP M2 l0 1 (some ((zv_wP M1 l0 0 (some M.1.length)).1.length))) l0 2 0).1.length))).1.length) (zv_mk (zv_wP M3 l0 3 (some ((zv_wI (zv_wP M2 l0 1 (some ((zv_wP M1 l0 0 (some M.1.length)).1.length))) l0 2 0).1.length))) (.inr 1))) (fun M4 => zv_ob M4 11 l0 (zv_ob (zv_mk (zv_wP M4 l0 4 (some ((zv_wP M3 l0 3 (some ((zv_wI (zv_wP M2 l0 1 (some ((zv_wP M1 l0 0 (some M.1.length)).1.length))) l0 2 0).1.length))).1.length))) (.inr 1)) 1 ((zv_wP M4 l0 4 (some ((zv_wP M3 l0 3 (some ((zv_wI (zv_wP M2 l0 1 (some ((zv_wP M1 l0 0 (some M.1.length)).1.length))) l0 2 0).1.length))).1.length))).1.length) (zv_cv (zg_Cover_init_0 X ((zv_wP M4 l0 4 (some ((zv_wP M3 l0 3 (some ((zv_wI (zv_wP M2 l0 1 (some ((zv_wP M1 l0 0 (some M.1.length)).1.length))) l0 2 0).1.length))).1.length))).1.length) (zv_mk (zv_wP M4 l0 4 (some ((zv_wP M3 l0 3 (some ((zv_wI (zv_wP M2 l0 1 (some ((zv_wP M1 l0 0 (some M.1.length)).1.length))) l0 2 0).1.length))).1.length))) (.inr 1))) (fun M5 => zv_ob M5 11 l0 (zv_ob (zv_mk (zv_wP M5 l0 5 (some ((zv_wP M4 l0 4 (some ((zv_wP M3 l0 3 (some ((zv_wI (zv_wP M2 l0 1 (some ((zv_wP M1 l0 0 (some M.1.length)).1.length))) l0 2 0).1.length))).1.length))).1.length))) (.inr 8)) 8 ((zv_wP M5 l0 5 (some ((zv_wP M4 l0 4 (some ((zv_wP M3 l0 3 (some ((zv_wI (zv_wP M2 l0 1 (some ((zv_wP M1 l0 0 (some M.1.length)).1.length))) l0 2 0).1.length))).1.length))).1.length))).1.length) (zv_cv (zg_Sieve_init_0 X ((zv_wP M5 l0 5 (some ((zv_wP M4 l0 4 (some ((zv_wP M3 l0 3 (some ((zv_wI (zv_wP M2 l0 1 (some ((zv_wP M1 l0 0 (some M.1.length)).1.length))) l0 2 0).1.length))).1.length))).1.length))).1.length) (zv_mk (zv_wP M5 l0 5 (some ((zv_wP M4 l0 4 (some ((zv_wP M3 l0 3 (some ((zv_wI (zv_wP M2 l0 1 (some ((zv_wP M1 l0 0 (some M.1.length)).1.length))) l0 2 0).1.length))).1.length))).1.length))) (.inr 8))) (fun M6 => zv_ob M6 11 l0 (if 301 < 0 ∨ 100000 < (301 : Int32).toNatClampNeg ∨ 4 ≤ 0 then none else zv_ob (zv_mk (zv_wP M6 l0 6 (some ((zv_wP M5 l0 5 (some ((zv_wP M4 l0 4 (some ((zv_wP M3 l0 3 (some ((zv_wI (zv_wP M2 l0 1 (some ((zv_wP M1 l0 0 (some M.1.length)).1.length))) l0 2 0).1.length))).1.length))).1.length))).1.length))) (.inl (0, (301 : Int32).toNatClampNeg))) 11 l0 (some (none, zv_wP (zv_mk (zv_wP M6 l0 6 (some ((zv_wP M5 l0 5 (some ((zv_wP M4 l0 4 (some ((zv_wP M3 l0 3 (some ((zv_wI (zv_wP M2 l0 1 (some ((zv_wP M1 l0 0 (some M.1.length)).1.length))) l0 2 0).1.length))).1.length))).1.length))).1.length))) (.inl (0, (301 : Int32).toNatClampNeg))) l0 7 (some ((zv_wP M6 l0 6 (some ((zv_wP M5 l0 5 (some ((zv_wP M4 l0 4 (some ((zv_wP M3 l0 3 (some ((zv_wI (zv_wP M2 l0 1 (some ((zv_wP M1 l0 0 (some M.1.length)).1.length))) l0 2 0).1.length))).1.length))).1.length))).1.length))).1.length)))))))))))))))) else none))))))) := (zR_step X _).trans rfl
set_option maxRecDepth 50000 in
theorem zg_GP_feed_0_e (X : zv_X) (l0 : Nat) (l1 l2 l3 l4 l5 : Int32) (M : zv_M) : zg_GP_feed_0 X l0 l1 l2 l3 l4 l5 M = zv_ob M 11 l0 (zv_rf (M.2.2.2 l0 3) (fun p1 => zv_ob M 10 p1 (if ((M.2.1 p1 1) + 20) ≤ 600 then zg_GP_feed_18 X l0 l1 l2 l3 l4 l5 M else some (some (.int (-1)), M)))) := (zR_step X _).trans rfl
set_option maxRecDepth 50000 in
theorem zg_GP_feed_18_e (X : zv_X) (l0 : Nat) (l1 l2 l3 l4 l5 : Int32) (M : zv_M) : zg_GP_feed_18 X l0 l1 l2 l3 l4 l5 M = zv_ob M 11 l0 (zv_rf (M.2.2.2 l0 3) (fun p1 => zv_ob M 10 p1 (zv_cv (zg_Teller_addFour_0 X p1 l1 M) (fun M2 => zv_ob M2 11 l0 (zv_rf (M2.2.2.2 l0 3) (fun p3 => zv_ob M2 10 p3 (zv_cv (zg_Teller_addFour_0 X p3 l2 M2) (fun M4 => zv_ob M4 11 l0 (zv_rf (M4.2.2.2 l0 3) (fun p5 => zv_ob M4 10 p5 (zv_cv (zg_Teller_addFour_0 X p5 l3 M4) (fun M6 => zv_ob M6 11 l0 (zv_rf (M6.2.2.2 l0 3) (fun p7 => zv_ob M6 10 p7 (zv_cv (zg_Teller_addFour_0 X p7 l4 M6) (fun M8 => zv_ob M8 11 l0 (zv_rf (M8.2.2.2 l0 3) (fun p9 => zv_ob M8 10 p9 (zv_cv (zg_Teller_addFour_0 X p9 l5 M8) (fun M10 => zv_ob M10 11 l0 (zv_rf (M10.2.2.2 l0 3) (fun p11 => zv_ob M10 10 p11 (some (some (.int (M10.2.1 p11 1)), M10)))))))))))))))))))))))) := (zR_step X _).trans rfl
set_option maxRecDepth 50000 in
theorem zg_GP_end_0_e (X : zv_X) (l0 : Nat) (l1 : Int32) (M : zv_M) : zg_GP_end_0 X l0 l1 M = if l1 < 0 then zg_GP_end_15 X M else zv_ob M 11 l0 (zv_rf (M.2.2.2 l0 3) (fun p1 => zv_ob M 10 p1 (if l1 ≤ (M.2.1 p1 1) then zg_GP_end_17 X l0 l1 M else zg_GP_end_15 X M))) := (zR_step X _).trans rfl
set_option maxRecDepth 50000 in
theorem zg_GP_end_15_e (X : zv_X) (M : zv_M) : zg_GP_end_15 X M = zv_rb 0 M := (zR_step X _).trans rfl
set_option maxRecDepth 50000 in
theorem zg_GP_end_17_e (X : zv_X) (l0 : Nat) (l1 : Int32) (M : zv_M) : zg_GP_end_17 X l0 l1 M = zv_ob M 11 l0 (zv_rf (M.2.2.2 l0 3) (fun p1 => zv_ob M 10 p1 (zv_rb 1 (zv_wI M p1 1 l1)))) := (zR_step X _).trans rfl
set_option maxRecDepth 50000 in
theorem zg_GP_text_0_e (X : zv_X) (l0 : Nat) (M : zv_M) : zg_GP_text_0 X l0 M = zv_ob M 11 l0 (zv_rf (M.2.2.2 l0 3) (fun p1 => zv_ob M 11 l0 (zv_rf (M.2.2.2 l0 0) (fun p2 => zv_ob M 10 p1 (zv_cv (zg_Teller_readAll_0 X p1 p2 M) (fun M3 => zv_ob M3 11 l0 (zv_rf (M3.2.2.2 l0 3) (fun p4 => zv_ob M3 10 p4 (zv_ob (zv_wI M3 p4 1 0) 11 l0 (zv_rf ((zv_wI M3 p4 1 0).2.2.2 l0 3) (fun p5 => zv_ob (zv_wI M3 p4 1 0) 10 p5 (if ((zv_wI M3 p4 1 0).2.1 p5 4) = 0 then zg_GP_text_31 X l0 (zv_wI M3 p4 1 0) else some (some (.int (-1)), zv_wI M3 p4 1 0))))))))))))) := (zR_step X _).trans rfl
set_option maxRecDepth 50000 in
theorem zg_GP_text_31_e (X : zv_X) (l0 : Nat) (M : zv_M) : zg_GP_text_31 X l0 M = zv_ob M 11 l0 (zv_rf (M.2.2.2 l0 0) (fun p1 => zv_ob M 9 p1 (zv_rf (M.2.2.2 p1 0) (fun p2 => zv_ob M 11 l0 (zv_rf (M.2.2.2 l0 3) (fun p3 => zv_ob M 10 p3 (zv_rf (M.2.2.2 p3 2) (fun p4 => zv_ob M 4 p2 (zv_cv (zg_Keys_copyFrom_0 X p2 p4 M) (fun M5 => zv_ob M5 11 l0 (zv_rf (M5.2.2.2 l0 3) (fun p6 => zv_ob M5 10 p6 (zv_rf (M5.2.2.2 p6 3) (fun p7 => zv_ob M5 11 l0 (zv_rf (M5.2.2.2 l0 0) (fun p8 => zv_ob M5 9 p8 (zv_rf (M5.2.2.2 p8 3) (fun p9 => zv_ac M5 p7 0 p9 0 8 0 (fun M10 => zv_ob M10 11 l0 (zv_rf (M10.2.2.2 l0 0) (fun p11 => zv_ob M10 9 p11 (zv_rf (M10.2.2.2 p11 5) (fun p12 => zv_ob M10 0 p12 (zv_cv (zg_Acts_forget_0 X p12 M10) (fun M13 => zv_ob M13 11 l0 (zv_cv (zg_GP_buildAll_0 X l0 M13) (fun M14 => zv_ob M14 11 l0 (zv_rf (M14.2.2.2 l0 0) (fun p15 => zv_ob M14 9 p15 (zv_rf (M14.2.2.2 p15 0) (fun p16 => zv_ob M14 4 p16 (some (some (.int (M14.2.1 p16 2)), M14))))))))))))))))))))))))))))))))) := (zR_step X _).trans rfl
set_option maxRecDepth 50000 in
theorem zg_GP_fault_0_e (X : zv_X) (l0 : Nat) (l1 : Int32) (M : zv_M) : zg_GP_fault_0 X l0 l1 M = if l1 = 0 then zv_ob M 11 l0 (zv_rf (M.2.2.2 l0 3) (fun p1 => zv_ob M 10 p1 (some (some (.int (M.2.1 p1 4)), M)))) else zg_GP_fault_12 X l0 l1 M := (zR_step X _).trans rfl
set_option maxRecDepth 50000 in
theorem zg_GP_fault_12_e (X : zv_X) (l0 : Nat) (l1 : Int32) (M : zv_M) : zg_GP_fault_12 X l0 l1 M = if l1 = 1 then zv_ob M 11 l0 (zv_rf (M.2.2.2 l0 3) (fun p1 => zv_ob M 10 p1 (zg_GP_fault_28 X (M.2.1 p1 5) M))) else zg_GP_fault_27 X M := (zR_step X _).trans rfl
set_option maxRecDepth 50000 in
theorem zg_GP_fault_27_e (X : zv_X) (M : zv_M) : zg_GP_fault_27 X M = zg_GP_fault_28 X (-1) M := (zR_step X _).trans rfl
set_option maxRecDepth 50000 in
theorem zg_GP_fault_28_e (X : zv_X) (s0 : Int32) (M : zv_M) : zg_GP_fault_28 X s0 M = some (some (.int s0), M) := (zR_step X _).trans rfl
set_option maxRecDepth 50000 in
theorem zg_GP_set_0_e (X : zv_X) (l0 : Nat) (l1 l2 : Int32) (M : zv_M) : zg_GP_set_0 X l0 l1 l2 M = zv_ci (zg_GP_canBeTold_0 X l1 l2 M) (fun v2 M1 => if v2 = 0 then zv_rb 0 M1 else zg_GP_set_10 X l0 l1 l2 M1) := (zR_step X _).trans rfl
set_option maxRecDepth 50000 in
theorem zg_GP_set_10_e (X : zv_X) (l0 : Nat) (l1 l2 : Int32) (M : zv_M) : zg_GP_set_10 X l0 l1 l2 M = zv_ob M 11 l0 (zv_rf (M.2.2.2 l0 0) (fun p1 => zv_ob M 9 p1 (zv_rf (M.2.2.2 p1 3) (fun p2 => zv_ix M 0 p2 l1 (fun j3 => if l1 = 0 then zg_GP_set_29 X l0 (zv_wI M p2 j3 l2) else if l1 = 1 then zg_GP_set_29 X l0 (zv_wI M p2 j3 l2) else zg_GP_set_43 X (zv_wI M p2 j3 l2)))))) := (zR_step X _).trans rfl
set_option maxRecDepth 50000 in
theorem zg_GP_set_29_e (X : zv_X) (l0 : Nat) (M : zv_M) : zg_GP_set_29 X l0 M = zv_ob M 11 l0 (zv_rf (M.2.2.2 l0 0) (fun p1 => zv_ob M 9 p1 (zv_rf (M.2.2.2 p1 5) (fun p2 => zv_ob M 0 p2 (zv_cv (zg_Acts_forget_0 X p2 M) (fun M3 => zv_ob M3 11 l0 (zv_cv (zg_GP_buildAll_0 X l0 M3) (fun M4 => zg_GP_set_43 X M4)))))))) := (zR_step X _).trans rfl
set_option maxRecDepth 50000 in
theorem zg_GP_set_43_e (X : zv_X) (M : zv_M) : zg_GP_set_43 X M = zv_rb 1 M := (zR_step X _).trans rfl
set_option maxRecDepth 50000 in
theorem zg_GP_insert_0_e (X : zv_X) (l0 : Nat) (l1 : Int32) (M : zv_M) : zg_GP_insert_0 X l0 l1 M = zv_ci (zg_GP_canBeKey_0 X l1 M) (fun v2 M1 => if v2 = 0 then zg_GP_insert_22 X M1 else zv_ob M1 11 l0 (zv_rf (M1.2.2.2 l0 0) (fun p3 => zv_ob M1 9 p3 (zv_rf (M1.2.2.2 p3 0) (fun p4 => zv_ob M1 4 p4 (zv_ci (zg_Keys_canTake_0 X p4 l1 1 M1) (fun v6 M5 => if v6 = 0 then zg_GP_insert_22 X M5 else zg_GP_insert_24 X l0 l1 M5))))))) := (zR_step X _).trans rfl
set_option maxRecDepth 50000 in
theorem zg_GP_insert_22_e (X : zv_X) (M : zv_M) : zg_GP_insert_22 X M = some (some (.int (-1)), M) := (zR_step X _).trans rfl
set_option maxRecDepth 50000 in
theorem zg_GP_insert_24_e (X : zv_X) (l0 : Nat) (l1 : Int32) (M : zv_M) : zg_GP_insert_24 X l0 l1 M = zv_ob M 11 l0 (zv_rf (M.2.2.2 l0 0) (fun p1 => zv_ob M 9 p1 (zv_rf (M.2.2.2 p1 0) (fun p2 => zv_ob M 4 p2 (zv_ci (zg_Keys_has_0 X p2 l1 M) (fun v4 M3 => if v4 = 0 then zg_GP_insert_43 X l0 l1 1 M3 else zg_GP_insert_42 X l0 l1 M3)))))) := (zR_step X _).trans rfl
set_option maxRecDepth 50000 in
theorem zg_GP_insert_42_e (X : zv_X) (l0 : Nat) (l1 : Int32) (M : zv_M) : zg_GP_insert_42 X l0 l1 M = zg_GP_insert_43 X l0 l1 0 M := (zR_step X _).trans rfl
set_option maxRecDepth 50000 in
theorem zg_GP_insert_43_e (X : zv_X) (l0 : Nat) (l1 s0 : Int32) (M : zv_M) : zg_GP_insert_43 X l0 l1 s0 M = zv_ob M 11 l0 (zv_rf (M.2.2.2 l0 0) (fun p1 => zv_ob M 9 p1 (zv_rf (M.2.2.2 p1 0) (fun p2 => zv_ob M 4 p2 (zv_cv (zg_Keys_change_0 X p2 l1 1 M) (fun M3 => zv_ob M3 11 l0 (zv_rf (M3.2.2.2 l0 0) (fun p4 => zv_ob M3 9 p4 (zv_rf (M3.2.2.2 p4 5) (fun p5 => zv_ob M3 0 p5 (zv_cv (zg_Acts_note_0 X p5 l1 1 M3) (fun M6 => if s0 = 0 then zg_GP_insert_106 X l0 l1 M6 else zv_ob M6 11 l0 (zv_rf (M6.2.2.2 l0 0) (fun p7 => zv_ob M6 9 p7 (zv_ci (zg_State_stands_0 X p7 l1 M6) (fun v9 M8 => if v9 = 0 then zv_ob M8 11 l0 (zv_rf (M8.2.2.2 l0 0) (fun p10 => zv_ob M8 9 p10 (zv_ci (zg_State_waiting_0 X p10 M8) (fun v12 M11 => zv_ob M11 11 l0 (zv_rf (M11.2.2.2 l0 0) (fun p13 => zv_ob M11 9 p13 (zv_rf (M11.2.2.2 p13 3) (fun p14 => zv_ix M11 0 p14 2 (fun j15 => if v12 ≤ (M11.2.1 p14 j15) then zg_GP_insert_106 X l0 l1 M11 else zv_ob M11 11 l0 (zv_cv (zg_GP_buildAll_0 X l0 M11) (fun M16 => zg_GP_insert_106 X l0 l1 M16))))))))))) else zg_GP_insert_106 X l0 l1 M8)))))))))))))))) := (zR_step X _).trans rfl
set_option maxRecDepth 50000 in
theorem zg_GP_insert_106_e (X : zv_X) (l0 : Nat) (l1 : Int32) (M : zv_M) : zg_GP_insert_106 X l0 l1 M = zv_ob M 11 l0 (zv_rf (M.2.2.2 l0 0) (fun p1 => zv_ob M 9 p1 (zv_rf (M.2.2.2 p1 0) (fun p2 => zv_ob M 4 p2 (zv_ci (zg_Keys_countOf_0 X p2 l1 M) (fun v4 M3 => some (some (.int v4), M3))))))) := (zR_step X _).trans rfl
set_option maxRecDepth 50000 in
theorem zg_GP_remove_0_e (X : zv_X) (l0 : Nat) (l1 : Int32) (M : zv_M) : zg_GP_remove_0 X l0 l1 M = zv_ob M 11 l0 (zv_rf (M.2.2.2 l0 0) (fun p1 => zv_ob M 9 p1 (zv_rf (M.2.2.2 p1 0) (fun p2 => zv_ob M 4 p2 (zv_ci (zg_Keys_has_0 X p2 l1 M) (fun v4 M3 => if v4 = 0 then some (some (.int (-1)), M3) else zg_GP_remove_16 X l0 l1 M3)))))) := (zR_step X _).trans rfl
set_option maxRecDepth 50000 in
theorem zg_GP_remove_16_e (X : zv_X) (l0 : Nat) (l1 : Int32) (M : zv_M) : zg_GP_remove_16 X l0 l1 M = zv_ob M 11 l0 (zv_rf (M.2.2.2 l0 0) (fun p1 => zv_ob M 9 p1 (zv_rf (M.2.2.2 p1 0) (fun p2 => zv_ob M 4 p2 (zv_cv (zg_Keys_change_0 X p2 l1 (-1) M) (fun M3 => zv_ob M3 11 l0 (zv_rf (M3.2.2.2 l0 0) (fun p4 => zv_ob M3 9 p4 (zv_rf (M3.2.2.2 p4 5) (fun p5 => zv_ob M3 0 p5 (zv_cv (zg_Acts_note_0 X p5 l1 (-1) M3) (fun M6 => zv_ob M6 11 l0 (zv_rf (M6.2.2.2 l0 0) (fun p7 => zv_ob M6 9 p7 (zv_rf (M6.2.2.2 p7 0) (fun p8 => zv_ob M6 4 p8 (zv_ci (zg_Keys_countOf_0 X p8 l1 M6) (fun v10 M9 => some (some (.int v10), M9))))))))))))))))))) := (zR_step X _).trans rfl
set_option maxRecDepth 50000 in
theorem zg_GP_undo_0_e (X : zv_X) (l0 : Nat) (l1 : Int32) (M : zv_M) : zg_GP_undo_0 X l0 l1 M = zv_ob M 11 l0 (zv_rf (M.2.2.2 l0 0) (fun p1 => zv_ob M 9 p1 (zv_rf (M.2.2.2 p1 5) (fun p2 => zv_ob M 0 p2 (zv_ci (zg_Acts_step_0 X p2 l1 M) (fun v4 M3 => if v4 < 0 then zg_GP_undo_22 X M3 else if v4 < 20 then zg_GP_undo_25 X l0 l1 v4 M3 else zg_GP_undo_22 X M3)))))) := (zR_step X _).trans rfl
set_option maxRecDepth 50000 in
theorem zg_GP_undo_22_e (X : zv_X) (M : zv_M) : zg_GP_undo_22 X M = some (some (.int (-1000000001)), M) := (zR_step X _).trans rfl
set_option maxRecDepth 50000 in
theorem zg_GP_undo_25_e (X : zv_X) (l0 : Nat) (l1 l2 : Int32) (M : zv_M) : zg_GP_undo_25 X l0 l1 l2 M = zv_ob M 11 l0 (zv_rf (M.2.2.2 l0 0) (fun p1 => zv_ob M 9 p1 (zv_rf (M.2.2.2 p1 5) (fun p2 => zv_ob M 0 p2 (zv_rf (M.2.2.2 p2 0) (fun p3 => zv_ix M 0 p3 l2 (fun j4 => zv_ob M 11 l0 (zv_rf (M.2.2.2 l0 0) (fun p5 => zv_ob M 9 p5 (zv_rf (M.2.2.2 p5 5) (fun p6 => zv_ob M 0 p6 (zv_rf (M.2.2.2 p6 1) (fun p7 => zv_ix M 0 p7 l2 (fun j8 => zv_ob M 11 l0 (zv_rf (M.2.2.2 l0 0) (fun p9 => zv_ob M 9 p9 (zv_rf (M.2.2.2 p9 0) (fun p10 => if l1 = 0 then zg_GP_undo_70 X (M.2.1 p3 j4) (M.2.1 p7 j8) (M.2.1 p3 j4) p10 M else zg_GP_undo_72 X (M.2.1 p3 j4) (-(M.2.1 p7 j8)) (M.2.1 p3 j4) p10 M)))))))))))))))))) := (zR_step X _).trans rfl
set_option maxRecDepth 50000 in
theorem zg_GP_undo_70_e (X : zv_X) (l3 l4 s0 : Int32) (s1 : Nat) (M : zv_M) : zg_GP_undo_70 X l3 l4 s0 s1 M = zg_GP_undo_72 X l3 l4 s0 s1 M := (zR_step X _).trans rfl
set_option maxRecDepth 50000 in
theorem zg_GP_undo_72_e (X : zv_X) (l3 s0 s1 : Int32) (s2 : Nat) (M : zv_M) : zg_GP_undo_72 X l3 s0 s1 s2 M = zv_ob M 4 s2 (zv_cv (zg_Keys_change_0 X s2 s1 s0 M) (fun M1 => some (some (.int l3), M1))) := (zR_step X _).trans rfl
set_option maxRecDepth 50000 in
theorem zg_GP_build_0_e (X : zv_X) (l0 : Nat) (M : zv_M) : zg_GP_build_0 X l0 M = zv_ob M 11 l0 (zv_rf (M.2.2.2 l0 0) (fun p1 => zv_ob M 9 p1 (zv_rf (M.2.2.2 p1 5) (fun p2 => zv_ob M 0 p2 (zv_cv (zg_Acts_forget_0 X p2 M) (fun M3 => zv_ob M3 11 l0 (zv_cv (zg_GP_buildAll_0 X l0 M3) (fun M4 => zv_ob M4 11 l0 (zv_rf (M4.2.2.2 l0 0) (fun p5 => zv_ob M4 9 p5 (some (some (.int (M4.2.1 p5 2)), M4)))))))))))) := (zR_step X _).trans rfl
set_option maxRecDepth 50000 in
theorem zg_GP_count_0_e (X : zv_X) (l0 : Nat) (l1 : Int32) (M : zv_M) : zg_GP_count_0 X l0 l1 M = zv_ob M 11 l0 (zv_rf (M.2.2.2 l0 0) (fun p1 => zv_ob M 9 p1 (zv_rf (M.2.2.2 p1 0) (fun p2 => zv_ob M 4 p2 (zv_ci (zg_Keys_countOf_0 X p2 l1 M) (fun v4 M3 => some (some (.int v4), M3))))))) := (zR_step X _).trans rfl
set_option maxRecDepth 50000 in
theorem zg_GP_key_0_e (X : zv_X) (l0 : Nat) (l1 : Int32) (M : zv_M) : zg_GP_key_0 X l0 l1 M = if l1 < 0 then zg_GP_key_33 X M else zv_ob M 11 l0 (zv_rf (M.2.2.2 l0 0) (fun p1 => zv_ob M 9 p1 (zv_rf (M.2.2.2 p1 0) (fun p2 => zv_ob M 4 p2 (if (M.2.1 p2 2) ≤ l1 then zg_GP_key_33 X M else zv_ob M 11 l0 (zv_rf (M.2.2.2 l0 0) (fun p3 => zv_ob M 9 p3 (zv_rf (M.2.2.2 p3 0) (fun p4 => zv_ob M 4 p4 (zv_rf (M.2.2.2 p4 0) (fun p5 => zv_ix M 0 p5 l1 (fun j6 => zg_GP_key_35 X (M.2.1 p5 j6) M)))))))))))) := (zR_step X _).trans rfl
set_option maxRecDepth 50000 in
theorem zg_GP_key_33_e (X : zv_X) (M : zv_M) : zg_GP_key_33 X M = zg_GP_key_35 X (-1000000001) M := (zR_step X _).trans rfl
set_option maxRecDepth 50000 in
theorem zg_GP_key_35_e (X : zv_X) (s0 : Int32) (M : zv_M) : zg_GP_key_35 X s0 M = some (some (.int s0), M) := (zR_step X _).trans rfl
set_option maxRecDepth 50000 in
theorem zg_GP_rank_0_e (X : zv_X) (l0 : Nat) (l1 : Int32) (M : zv_M) : zg_GP_rank_0 X l0 l1 M = zv_ob M 11 l0 (zv_rf (M.2.2.2 l0 0) (fun p1 => zv_ob M 9 p1 (zv_rf (M.2.2.2 p1 0) (fun p2 => zv_ob M 4 p2 (zv_ci (zg_Keys_below_0 X p2 l1 M) (fun v4 M3 => some (some (.int v4), M3))))))) := (zR_step X _).trans rfl
set_option maxRecDepth 50000 in
theorem zg_GP_range_0_e (X : zv_X) (l0 : Nat) (l1 l2 l3 : Int32) (M : zv_M) : zg_GP_range_0 X l0 l1 l2 l3 M = if l3 < 0 then zg_GP_range_9 X M else if l3 ≤ 2 then zg_GP_range_13 X l0 l1 l2 l3 M else zg_GP_range_9 X M := (zR_step X _).trans rfl
set_option maxRecDepth 50000 in
theorem zg_GP_range_9_e (X : zv_X) (M : zv_M) : zg_GP_range_9 X M = some (some (.long (-1)), M) := (zR_step X _).trans rfl
set_option maxRecDepth 50000 in
theorem zg_GP_range_13_e (X : zv_X) (l0 : Nat) (l1 l2 l3 : Int32) (M : zv_M) : zg_GP_range_13 X l0 l1 l2 l3 M = zv_ob M 11 l0 (zv_rf (M.2.2.2 l0 0) (fun p1 => zv_ob M 9 p1 (zv_rf (M.2.2.2 p1 0) (fun p2 => zv_ob M 4 p2 (zv_ci (zg_Keys_below_0 X p2 l1 M) (fun v4 M3 => zg_GP_range_33 X l2 l3 p2 0 v4 M3)))))) := (zR_step X _).trans rfl
set_option maxRecDepth 50000 in
theorem zg_GP_range_33_e (X : zv_X) (l2 l3 : Int32) (l4 : Nat) (l5 : Int64) (l7 : Int32) (M : zv_M) : zg_GP_range_33 X l2 l3 l4 l5 l7 M = zv_ob M 4 l4 (if (M.2.1 l4 2) ≤ l7 then zg_GP_range_115 X l5 M else zv_ob M 4 l4 (zv_rf (M.2.2.2 l4 0) (fun p1 => zv_ix M 0 p1 l7 (fun j2 => if l2 < (M.2.1 p1 j2) then zg_GP_range_115 X l5 M else if l3 = 0 then zg_GP_range_109 X l2 l3 l4 (l5 + 1) l7 M else zg_GP_range_68 X l2 l3 l4 l5 l7 M)))) := (zR_step X _).trans rfl
set_option maxRecDepth 50000 in
theorem zg_GP_range_68_e (X : zv_X) (l2 l3 : Int32) (l4 : Nat) (l5 : Int64) (l7 : Int32) (M : zv_M) : zg_GP_range_68 X l2 l3 l4 l5 l7 M = if l3 = 1 then zv_ob M 4 l4 (zv_rf (M.2.2.2 l4 1) (fun p1 => zv_ix M 0 p1 l7 (fun j2 => zg_GP_range_106 X l2 l3 l4 l7 (Int32.toInt64 (M.2.1 p1 j2)) l5 M))) else zg_GP_range_87 X l2 l3 l4 l7 l5 M := (zR_step X _).trans rfl
set_option maxRecDepth 50000 in
theorem zg_GP_range_87_e (X : zv_X) (l2 l3 : Int32) (l4 : Nat) (l7 : Int32) (s0 : Int64) (M : zv_M) : zg_GP_range_87 X l2 l3 l4 l7 s0 M = zv_ob M 4 l4 (zv_rf (M.2.2.2 l4 0) (fun p1 => zv_ix M 0 p1 l7 (fun j2 => zv_ob M 4 l4 (zv_rf (M.2.2.2 l4 1) (fun p3 => zv_ix M 0 p3 l7 (fun j4 => zg_GP_range_106 X l2 l3 l4 l7 ((Int32.toInt64 (M.2.1 p1 j2)) * (Int32.toInt64 (M.2.1 p3 j4))) s0 M)))))) := (zR_step X _).trans rfl
set_option maxRecDepth 50000 in
theorem zg_GP_range_106_e (X : zv_X) (l2 l3 : Int32) (l4 : Nat) (l7 : Int32) (s0 s1 : Int64) (M : zv_M) : zg_GP_range_106 X l2 l3 l4 l7 s0 s1 M = zg_GP_range_109 X l2 l3 l4 (s1 + s0) l7 M := (zR_step X _).trans rfl
set_option maxRecDepth 50000 in
theorem zg_GP_range_109_e (X : zv_X) (l2 l3 : Int32) (l4 : Nat) (l5 : Int64) (l7 : Int32) (M : zv_M) : zg_GP_range_109 X l2 l3 l4 l5 l7 M = zg_GP_range_33 X l2 l3 l4 l5 (l7 + 1) M := (zR_step X _).trans rfl
set_option maxRecDepth 50000 in
theorem zg_GP_range_115_e (X : zv_X) (l5 : Int64) (M : zv_M) : zg_GP_range_115 X l5 M = some (some (.long l5), M) := (zR_step X _).trans rfl
set_option maxRecDepth 50000 in
theorem zg_GP_piece_0_e (X : zv_X) (l0 : Nat) (l1 l2 l3 : Int32) (M : zv_M) : zg_GP_piece_0 X l0 l1 l2 l3 M = zv_ob M 11 l0 (zv_ci (zg_GP_isPiece_0 X l0 l1 l2 M) (fun v2 M1 => if v2 = 0 then some (some (.int (-1000000001)), M1) else zg_GP_piece_12 X l0 l1 l2 l3 M1)) := (zR_step X _).trans rfl
set_option maxRecDepth 50000 in
theorem zg_GP_piece_12_e (X : zv_X) (l0 : Nat) (l1 l2 l3 : Int32) (M : zv_M) : zg_GP_piece_12 X l0 l1 l2 l3 M = zv_ob M 11 l0 (zv_rf (M.2.2.2 l0 4) (fun p1 => zv_ob M 1 p1 (zv_rf (M.2.2.2 p1 0) (fun p2 => zv_iq M p2 l1 (fun j3 => zv_rf (M.2.2.2 p2 j3) (fun p4 => if (l3 : Int32).toInt < 0 ∨ 4 < (l3 : Int32).toInt then zg_GP_piece_98 X M else zv_sw [60, 68, 75, 83, 91] ((l3 : Int32).toInt - 0).toNat (fun l => zR X (zv_jmp 95 l [some (.ref l0), some (.int l1), some (.int l2), some (.int l3), some (.ref p4)] [] M)))))))) := (zR_step X _).trans rfl
set_option maxRecDepth 50000 in
theorem zg_GP_piece_60_e (X : zv_X) (l2 : Int32) (l4 : Nat) (M : zv_M) : zg_GP_piece_60 X l2 l4 M = zv_ob M 5 l4 (zv_rf (M.2.2.2 l4 4) (fun p1 => zv_ix M 0 p1 l2 (fun j2 => some (some (.int (M.2.1 p1 j2)), M)))) := (zR_step X _).trans rfl
set_option maxRecDepth 50000 in
theorem zg_GP_piece_68_e (X : zv_X) (l2 : Int32) (l4 : Nat) (M : zv_M) : zg_GP_piece_68 X l2 l4 M = zv_ob M 5 l4 (zv_ci (zg_Level_lastOf_0 X l4 l2 M) (fun v2 M1 => some (some (.int v2), M1))) := (zR_step X _).trans rfl
set_option maxRecDepth 50000 in
theorem zg_GP_piece_75_e (X : zv_X) (l2 : Int32) (l4 : Nat) (M : zv_M) : zg_GP_piece_75 X l2 l4 M = zv_ob M 5 l4 (zv_rf (M.2.2.2 l4 5) (fun p1 => zv_ix M 0 p1 l2 (fun j2 => some (some (.int (M.2.1 p1 j2)), M)))) := (zR_step X _).trans rfl
set_option maxRecDepth 50000 in
theorem zg_GP_piece_83_e (X : zv_X) (l2 : Int32) (l4 : Nat) (M : zv_M) : zg_GP_piece_83 X l2 l4 M = zv_ob M 5 l4 (zv_rf (M.2.2.2 l4 6) (fun p1 => zv_ix M 0 p1 l2 (fun j2 => some (some (.int (M.2.1 p1 j2)), M)))) := (zR_step X _).trans rfl
set_option maxRecDepth 50000 in
theorem zg_GP_piece_91_e (X : zv_X) (l2 : Int32) (l4 : Nat) (M : zv_M) : zg_GP_piece_91 X l2 l4 M = zv_ob M 5 l4 (zv_ci (zg_Level_firstKeyOf_0 X l4 l2 M) (fun v2 M1 => some (some (.int v2), M1))) := (zR_step X _).trans rfl
set_option maxRecDepth 50000 in
theorem zg_GP_piece_98_e (X : zv_X) (M : zv_M) : zg_GP_piece_98 X M = some (some (.int (-1000000001)), M) := (zR_step X _).trans rfl
set_option maxRecDepth 50000 in
theorem zg_GP_guess_0_e (X : zv_X) (l0 : Nat) (l1 l2 l3 : Int32) (M : zv_M) : zg_GP_guess_0 X l0 l1 l2 l3 M = zv_ob M 11 l0 (zv_ci (zg_GP_isPiece_0 X l0 l1 l2 M) (fun v2 M1 => if v2 = 0 then zg_GP_guess_26 X M1 else zv_ob M1 11 l0 (zv_rf (M1.2.2.2 l0 4) (fun p3 => zv_ob M1 1 p3 (zv_rf (M1.2.2.2 p3 0) (fun p4 => zv_iq M1 p4 l1 (fun j5 => zv_rf (M1.2.2.2 p4 j5) (fun p6 => zv_ob M1 5 p6 (zv_ci (zg_Level_guessed_0 X p6 l2 l3 M1) (fun v8 M7 => zg_GP_guess_27 X v8 M7)))))))))) := (zR_step X _).trans rfl
set_option maxRecDepth 50000 in
theorem zg_GP_guess_26_e (X : zv_X) (M : zv_M) : zg_GP_guess_26 X M = zg_GP_guess_27 X (-1) M := (zR_step X _).trans rfl
set_option maxRecDepth 50000 in
theorem zg_GP_guess_27_e (X : zv_X) (s0 : Int32) (M : zv_M) : zg_GP_guess_27 X s0 M = some (some (.int s0), M) := (zR_step X _).trans rfl
set_option maxRecDepth 50000 in
theorem zg_GP_seek_0_e (X : zv_X) (l0 : Nat) (l1 l2 : Int32) (M : zv_M) : zg_GP_seek_0 X l0 l1 l2 M = if l2 < 0 then zg_GP_seek_9 X M else if l2 ≤ 2 then zg_GP_seek_11 X l0 l1 l2 M else zg_GP_seek_9 X M := (zR_step X _).trans rfl
set_option maxRecDepth 50000 in
theorem zg_GP_seek_9_e (X : zv_X) (M : zv_M) : zg_GP_seek_9 X M = some (some (.int (-1)), M) := (zR_step X _).trans rfl
set_option maxRecDepth 50000 in
theorem zg_GP_seek_11_e (X : zv_X) (l0 : Nat) (l1 l2 : Int32) (M : zv_M) : zg_GP_seek_11 X l0 l1 l2 M = if l2 = 2 then zv_ob M 11 l0 (zv_rf (M.2.2.2 l0 4) (fun p1 => zv_ob M 1 p1 (zv_ci (zg_Cover_findPlainly_0 X p1 l1 M) (fun v3 M2 => zg_GP_seek_35 X l0 l2 v3 M2)))) else zg_GP_seek_27 X l0 l1 l2 M := (zR_step X _).trans rfl
set_option maxRecDepth 50000 in
theorem zg_GP_seek_27_e (X : zv_X) (l0 : Nat) (l1 l2 : Int32) (M : zv_M) : zg_GP_seek_27 X l0 l1 l2 M = zv_ob M 11 l0 (zv_rf (M.2.2.2 l0 4) (fun p1 => zv_ob M 1 p1 (zv_ci (zg_Cover_find_0 X p1 l1 M) (fun v3 M2 => zg_GP_seek_35 X l0 l2 v3 M2)))) := (zR_step X _).trans rfl
set_option maxRecDepth 50000 in
theorem zg_GP_seek_35_e (X : zv_X) (l0 : Nat) (l2 s0 : Int32) (M : zv_M) : zg_GP_seek_35 X l0 l2 s0 M = if l2 = 0 then zg_GP_seek_51 X s0 M else zg_GP_seek_44 X l0 M := (zR_step X _).trans rfl
set_option maxRecDepth 50000 in
theorem zg_GP_seek_44_e (X : zv_X) (l0 : Nat) (M : zv_M) : zg_GP_seek_44 X l0 M = zv_ob M 11 l0 (zv_rf (M.2.2.2 l0 4) (fun p1 => zv_ob M 1 p1 (zg_GP_seek_51 X (M.2.1 p1 3) M))) := (zR_step X _).trans rfl
set_option maxRecDepth 50000 in
theorem zg_GP_seek_51_e (X : zv_X) (s0 : Int32) (M : zv_M) : zg_GP_seek_51 X s0 M = some (some (.int s0), M) := (zR_step X _).trans rfl
set_option maxRecDepth 50000 in
theorem zg_GP_pages_0_e (X : zv_X) (l0 : Nat) (l1 : Int32) (M : zv_M) : zg_GP_pages_0 X l0 l1 M = if l1 = 0 then zv_ob M 11 l0 (zv_rf (M.2.2.2 l0 4) (fun p1 => zv_ob M 11 l0 (zv_rf (M.2.2.2 l0 0) (fun p2 => zv_ob M 9 p2 (zv_rf (M.2.2.2 p2 3) (fun p3 => zv_ix M 0 p3 3 (fun j4 => zv_ob M 1 p1 (zv_ci (zg_Cover_pagesOfAll_0 X p1 (M.2.1 p3 j4) M) (fun v6 M5 => some (some (.int v6), M5)))))))))) else zg_GP_pages_21 X l0 l1 M := (zR_step X _).trans rfl
set_option maxRecDepth 50000 in
theorem zg_GP_pages_21_e (X : zv_X) (l0 : Nat) (l1 : Int32) (M : zv_M) : zg_GP_pages_21 X l0 l1 M = if l1 = 1 then zv_ob M 11 l0 (zv_rf (M.2.2.2 l0 0) (fun p1 => zv_ob M 9 p1 (zv_ob M 11 l0 (zv_ci (zg_GP_treeHeight_0 X l0 M) (fun v3 M2 => zg_GP_pages_44 X ((M.2.1 p1 2) * (v3 + 1)) M2))))) else zg_GP_pages_43 X M := (zR_step X _).trans rfl
set_option maxRecDepth 50000 in
theorem zg_GP_pages_43_e (X : zv_X) (M : zv_M) : zg_GP_pages_43 X M = zg_GP_pages_44 X (-1) M := (zR_step X _).trans rfl
set_option maxRecDepth 50000 in
theorem zg_GP_pages_44_e (X : zv_X) (s0 : Int32) (M : zv_M) : zg_GP_pages_44 X s0 M = some (some (.int s0), M) := (zR_step X _).trans rfl
set_option maxRecDepth 50000 in
theorem zg_GP_errors_0_e (X : zv_X) (l0 : Nat) (l1 l2 : Int32) (M : zv_M) : zg_GP_errors_0 X l0 l1 l2 M = if l1 < 0 then zg_GP_errors_24 X M else zv_ob M 11 l0 (zv_rf (M.2.2.2 l0 4) (fun p1 => zv_ob M 1 p1 (if (M.2.1 p1 2) ≤ l1 then zg_GP_errors_24 X M else if l2 < 0 then zg_GP_errors_24 X M else if l2 ≤ 2 then zg_GP_errors_26 X l0 l1 l2 M else zg_GP_errors_24 X M))) := (zR_step X _).trans rfl
set_option maxRecDepth 50000 in
theorem zg_GP_errors_24_e (X : zv_X) (M : zv_M) : zg_GP_errors_24 X M = some (some (.int (-1)), M) := (zR_step X _).trans rfl
set_option maxRecDepth 50000 in
theorem zg_GP_errors_26_e (X : zv_X) (l0 : Nat) (l1 l2 : Int32) (M : zv_M) : zg_GP_errors_26 X l0 l1 l2 M = zv_ob M 11 l0 (zv_rf (M.2.2.2 l0 4) (fun p1 => zv_ob M 1 p1 (zv_rf (M.2.2.2 p1 0) (fun p2 => zv_iq M p2 l1 (fun j3 => zv_rf (M.2.2.2 p2 j3) (fun p4 => zg_GP_errors_48 X l2 p4 0 0 0 0 M)))))) := (zR_step X _).trans rfl
set_option maxRecDepth 50000 in
theorem zg_GP_errors_48_e (X : zv_X) (l2 : Int32) (l3 : Nat) (l4 l5 l6 l7 : Int32) (M : zv_M) : zg_GP_errors_48 X l2 l3 l4 l5 l6 l7 M = zv_ob M 5 l3 (if (M.2.1 l3 3) ≤ l7 then zg_GP_errors_132 X l2 l4 l5 l6 M else zv_ob M 5 l3 (zv_rf (M.2.2.2 l3 4) (fun p1 => zv_ix M 0 p1 l7 (fun j2 => zg_GP_errors_66 X l2 l3 l4 l5 l6 l7 (M.2.1 p1 j2) M)))) := (zR_step X _).trans rfl
set_option maxRecDepth 50000 in
theorem zg_GP_errors_66_e (X : zv_X) (l2 : Int32) (l3 : Nat) (l4 l5 l6 l7 l8 : Int32) (M : zv_M) : zg_GP_errors_66 X l2 l3 l4 l5 l6 l7 l8 M = zv_ob M 5 l3 (zv_ci (zg_Level_lastOf_0 X l3 l7 M) (fun v2 M1 => if v2 < l8 then zg_GP_errors_126 X l2 l3 l4 l5 l6 l7 M1 else zv_ob M1 5 l3 (zv_rf (M1.2.2.2 l3 0) (fun p3 => zv_ix M1 0 p3 l8 (fun j4 => zv_ob M1 5 l3 (zv_ci (zg_Level_guessed_0 X l3 l7 (M1.2.1 p3 j4) M1) (fun v6 M5 => zv_ci (zg_Math_abs_0 X (v6 - l8) M5) (fun v8 M7 => if v8 ≤ l4 then zg_GP_errors_120 X l2 l3 l4 (l5 + v8) l6 l7 l8 M7 else zg_GP_errors_120 X l2 l3 v8 (l5 + v8) l8 l7 l8 M7)))))))) := (zR_step X _).trans rfl
set_option maxRecDepth 50000 in
theorem zg_GP_errors_120_e (X : zv_X) (l2 : Int32) (l3 : Nat) (l4 l5 l6 l7 l8 : Int32) (M : zv_M) : zg_GP_errors_120 X l2 l3 l4 l5 l6 l7 l8 M = zg_GP_errors_66 X l2 l3 l4 l5 l6 l7 (l8 + 1) M := (zR_step X _).trans rfl
set_option maxRecDepth 50000 in
theorem zg_GP_errors_126_e (X : zv_X) (l2 : Int32) (l3 : Nat) (l4 l5 l6 l7 : Int32) (M : zv_M) : zg_GP_errors_126 X l2 l3 l4 l5 l6 l7 M = zg_GP_errors_48 X l2 l3 l4 l5 l6 (l7 + 1) M := (zR_step X _).trans rfl
set_option maxRecDepth 50000 in
theorem zg_GP_errors_132_e (X : zv_X) (l2 l4 l5 l6 : Int32) (M : zv_M) : zg_GP_errors_132 X l2 l4 l5 l6 M = if l2 = 0 then some (some (.int l4), M) else zg_GP_errors_139 X l2 l5 l6 M := (zR_step X _).trans rfl
set_option maxRecDepth 50000 in
theorem zg_GP_errors_139_e (X : zv_X) (l2 l5 l6 : Int32) (M : zv_M) : zg_GP_errors_139 X l2 l5 l6 M = if l2 = 1 then zg_GP_errors_151 X l5 M else zg_GP_errors_149 X l6 M := (zR_step X _).trans rfl
set_option maxRecDepth 50000 in
theorem zg_GP_errors_149_e (X : zv_X) (l6 : Int32) (M : zv_M) : zg_GP_errors_149 X l6 M = zg_GP_errors_151 X l6 M := (zR_step X _).trans rfl
set_option maxRecDepth 50000 in
theorem zg_GP_errors_151_e (X : zv_X) (s0 : Int32) (M : zv_M) : zg_GP_errors_151 X s0 M = some (some (.int s0), M) := (zR_step X _).trans rfl
set_option maxRecDepth 50000 in
theorem zg_GP_bestSlack_0_e (X : zv_X) (l0 : Nat) (l1 : Int32) (M : zv_M) : zg_GP_bestSlack_0 X l0 l1 M = if l1 = 0 then zg_GP_bestSlack_11 X l0 l1 M else if l1 = 1 then zg_GP_bestSlack_11 X l0 l1 M else some (some (.int (-1)), M) := (zR_step X _).trans rfl
set_option maxRecDepth 50000 in
theorem zg_GP_bestSlack_11_e (X : zv_X) (l0 : Nat) (l1 : Int32) (M : zv_M) : zg_GP_bestSlack_11 X l0 l1 M = zv_ox X 2 0 (fun x2 => zg_GP_bestSlack_22 X l0 l1 0 0 x2 M) := (zR_step X _).trans rfl
set_option maxRecDepth 50000 in
theorem zg_GP_bestSlack_22_e (X : zv_X) (l0 : Nat) (l1 l2 l3 l4 : Int32) (M : zv_M) : zg_GP_bestSlack_22 X l0 l1 l2 l3 l4 M = zv_ox X 3 0 (fun x2 => if x2 < l4 then zg_GP_bestSlack_109 X l1 l2 l3 M else zv_ob M 11 l0 (zv_rf (M.2.2.2 l0 5) (fun p3 => zv_ob M 11 l0 (zv_rf (M.2.2.2 l0 0) (fun p4 => zv_ob M 9 p4 (zv_rf (M.2.2.2 p4 1) (fun p5 => zv_ob M 11 l0 (zv_rf (M.2.2.2 l0 0) (fun p6 => zv_ob M 9 p6 (zv_ob M 11 l0 (zv_rf (M.2.2.2 l0 0) (fun p7 => zv_ob M 9 p7 (zv_rf (M.2.2.2 p7 3) (fun p8 => zv_ix M 0 p8 1 (fun j9 => zv_ob M 1 p3 (zv_cv (zg_Cover_over_0 X p3 p5 (M.2.1 p6 2) l4 (M.2.1 p8 j9) M) (fun M10 => zv_ob M10 11 l0 (zv_rf (M10.2.2.2 l0 5) (fun p11 => zv_ob M10 1 p11 (zv_ci (zg_Cover_comparedOfAll_0 X p11 M10) (fun v13 M12 => zv_ob M12 11 l0 (zv_rf (M12.2.2.2 l0 5) (fun p14 => zv_ob M12 1 p14 (zv_ci (zg_Cover_piecesOfAll_0 X p14 M12) (fun v16 M15 => zv_ox X 2 0 (fun x18 => if l4 = x18 then zg_GP_bestSlack_97 X l0 l1 l4 (v13 + v16) M15 else if l3 ≤ (v13 + v16) then zg_GP_bestSlack_103 X l0 l1 l2 l3 l4 M15 else zg_GP_bestSlack_97 X l0 l1 l4 (v13 + v16) M15)))))))))))))))))))))))))) := (zR_step X _).trans rfl
set_option maxRecDepth 50000 in
theorem zg_GP_bestSlack_97_e (X : zv_X) (l0 : Nat) (l1 l4 l5 : Int32) (M : zv_M) : zg_GP_bestSlack_97 X l0 l1 l4 l5 M = zg_GP_bestSlack_103 X l0 l1 l4 l5 l4 M := (zR_step X _).trans rfl
set_option maxRecDepth 50000 in
theorem zg_GP_bestSlack_103_e (X : zv_X) (l0 : Nat) (l1 l2 l3 l4 : Int32) (M : zv_M) : zg_GP_bestSlack_103 X l0 l1 l2 l3 l4 M = zg_GP_bestSlack_22 X l0 l1 l2 l3 (l4 + 1) M := (zR_step X _).trans rfl
set_option maxRecDepth 50000 in
theorem zg_GP_bestSlack_109_e (X : zv_X) (l1 l2 l3 : Int32) (M : zv_M) : zg_GP_bestSlack_109 X l1 l2 l3 M = if l1 = 0 then zg_GP_bestSlack_118 X l2 M else zg_GP_bestSlack_117 X l3 M := (zR_step X _).trans rfl
set_option maxRecDepth 50000 in
theorem zg_GP_bestSlack_117_e (X : zv_X) (l3 : Int32) (M : zv_M) : zg_GP_bestSlack_117 X l3 M = zg_GP_bestSlack_118 X l3 M := (zR_step X _).trans rfl
set_option maxRecDepth 50000 in
theorem zg_GP_bestSlack_118_e (X : zv_X) (s0 : Int32) (M : zv_M) : zg_GP_bestSlack_118 X s0 M = some (some (.int s0), M) := (zR_step X _).trans rfl
set_option maxRecDepth 50000 in
theorem zg_GP_lay_0_e (X : zv_X) (l0 : Nat) (M : zv_M) : zg_GP_lay_0 X l0 M = zv_ob M 11 l0 (zv_rf (M.2.2.2 l0 0) (fun p1 => zv_ob M 9 p1 (zv_rf (M.2.2.2 p1 6) (fun p2 => zv_ob M 11 l0 (zv_rf (M.2.2.2 l0 0) (fun p3 => zv_ob M 9 p3 (zv_rf (M.2.2.2 p3 0) (fun p4 => zv_ob M 3 p2 (zv_ci (zg_Gaps_fillEvenly_0 X p2 p4 M) (fun v6 M5 => some (some (.int v6), M5))))))))))) := (zR_step X _).trans rfl
set_option maxRecDepth 50000 in
theorem zg_GP_put_0_e (X : zv_X) (l0 : Nat) (l1 : Int32) (M : zv_M) : zg_GP_put_0 X l0 l1 M = zv_ci (zg_GP_canBeKey_0 X l1 M) (fun v2 M1 => if v2 = 0 then zg_GP_put_21 X M1 else zv_ob M1 11 l0 (zv_rf (M1.2.2.2 l0 0) (fun p3 => zv_ob M1 9 p3 (zv_rf (M1.2.2.2 p3 6) (fun p4 => zv_ob M1 3 p4 (zv_ci (zg_Gaps_squeezeIn_0 X p4 l1 M1) (fun v6 M5 => zg_GP_put_22 X v6 M5))))))) := (zR_step X _).trans rfl
set_option maxRecDepth 50000 in
theorem zg_GP_put_21_e (X : zv_X) (M : zv_M) : zg_GP_put_21 X M = zg_GP_put_22 X (-1) M := (zR_step X _).trans rfl
set_option maxRecDepth 50000 in
theorem zg_GP_put_22_e (X : zv_X) (s0 : Int32) (M : zv_M) : zg_GP_put_22 X s0 M = some (some (.int s0), M) := (zR_step X _).trans rfl
set_option maxRecDepth 50000 in
theorem zg_GP_cell_0_e (X : zv_X) (l0 : Nat) (l1 : Int32) (M : zv_M) : zg_GP_cell_0 X l0 l1 M = if l1 < 0 then zg_GP_cell_25 X M else if 64 ≤ l1 then zg_GP_cell_25 X M else zv_ob M 11 l0 (zv_rf (M.2.2.2 l0 0) (fun p1 => zv_ob M 9 p1 (zv_rf (M.2.2.2 p1 6) (fun p2 => zv_ob M 3 p2 (zv_rf (M.2.2.2 p2 0) (fun p3 => zv_ix M 0 p3 l1 (fun j4 => zg_GP_cell_27 X (M.2.1 p3 j4) M))))))) := (zR_step X _).trans rfl
set_option maxRecDepth 50000 in
theorem zg_GP_cell_25_e (X : zv_X) (M : zv_M) : zg_GP_cell_25 X M = zg_GP_cell_27 X (-1000000001) M := (zR_step X _).trans rfl
set_option maxRecDepth 50000 in
theorem zg_GP_cell_27_e (X : zv_X) (s0 : Int32) (M : zv_M) : zg_GP_cell_27 X s0 M = some (some (.int s0), M) := (zR_step X _).trans rfl
set_option maxRecDepth 50000 in
theorem zg_GP_poison_0_e (X : zv_X) (l0 : Nat) (l1 : Int32) (M : zv_M) : zg_GP_poison_0 X l0 l1 M = if l1 = 0 then zg_GP_poison_11 X l0 l1 M else if l1 = 1 then zg_GP_poison_11 X l0 l1 M else some (some (.int (-1)), M) := (zR_step X _).trans rfl
set_option maxRecDepth 50000 in
theorem zg_GP_poison_11_e (X : zv_X) (l0 : Nat) (l1 : Int32) (M : zv_M) : zg_GP_poison_11 X l0 l1 M = zv_ob M 11 l0 (zv_rf (M.2.2.2 l0 0) (fun p1 => zv_ob M 9 p1 (zv_rf (M.2.2.2 p1 0) (fun p2 => zv_ob M 11 l0 (zv_rf (M.2.2.2 l0 5) (fun p3 => zv_ob M 4 p2 (zv_rf (M.2.2.2 p2 0) (fun p4 => zv_ob M 4 p2 (zv_ob M 11 l0 (zv_rf (M.2.2.2 l0 0) (fun p5 => zv_ob M 9 p5 (zv_rf (M.2.2.2 p5 3) (fun p6 => zv_ix M 0 p6 0 (fun j7 => zv_ob M 11 l0 (zv_rf (M.2.2.2 l0 0) (fun p8 => zv_ob M 9 p8 (zv_rf (M.2.2.2 p8 3) (fun p9 => zv_ix M 0 p9 1 (fun j10 => zv_ob M 1 p3 (zv_cv (zg_Cover_over_0 X p3 p4 (M.2.1 p2 2) (M.2.1 p6 j7) (M.2.1 p9 j10) M) (fun M11 => zg_GP_poison_61 X l0 l1 p2 (-1000000001) 0 0 M11))))))))))))))))))))) := (zR_step X _).trans rfl
set_option maxRecDepth 50000 in
theorem zg_GP_poison_61_e (X : zv_X) (l0 : Nat) (l1 : Int32) (l2 : Nat) (l3 l4 l5 : Int32) (M : zv_M) : zg_GP_poison_61 X l0 l1 l2 l3 l4 l5 M = zv_ob M 4 l2 (if (2 * (M.2.1 l2 2)) ≤ l5 then zg_GP_poison_141 X l1 l3 l4 M else zv_ob M 4 l2 (zv_rf (M.2.2.2 l2 0) (fun p1 => if (2 : Int32) = 0 then none else zv_ix M 0 p1 (l5 / 2) (fun j2 => if (2 : Int32) = 0 then none else if (l5 - l5 / 2 * 2) = 0 then zg_GP_poison_93 X l0 l1 l2 l3 l4 l5 (-1) (M.2.1 p1 j2) M else zg_GP_poison_92 X l0 l1 l2 l3 l4 l5 (M.2.1 p1 j2) M)))) := (zR_step X _).trans rfl
set_option maxRecDepth 50000 in
theorem zg_GP_poison_92_e (X : zv_X) (l0 : Nat) (l1 : Int32) (l2 : Nat) (l3 l4 l5 s0 : Int32) (M : zv_M) : zg_GP_poison_92 X l0 l1 l2 l3 l4 l5 s0 M = zg_GP_poison_93 X l0 l1 l2 l3 l4 l5 1 s0 M := (zR_step X _).trans rfl
set_option maxRecDepth 50000 in
theorem zg_GP_poison_93_e (X : zv_X) (l0 : Nat) (l1 : Int32) (l2 : Nat) (l3 l4 l5 s0 s1 : Int32) (M : zv_M) : zg_GP_poison_93 X l0 l1 l2 l3 l4 l5 s0 s1 M = zv_ci (zg_GP_canBeKey_0 X (s1 + s0) M) (fun v2 M1 => if v2 = 0 then zg_GP_poison_135 X l0 l1 l2 l3 l4 l5 M1 else zv_ob M1 4 l2 (zv_ci (zg_Keys_has_0 X l2 (s1 + s0) M1) (fun v4 M3 => if v4 = 0 then zv_ob M3 11 l0 (zv_ci (zg_GP_piecesWith_0 X l0 (s1 + s0) M3) (fun v6 M5 => if v6 ≤ l4 then zg_GP_poison_135 X l0 l1 l2 l3 l4 l5 M5 else zg_GP_poison_135 X l0 l1 l2 (s1 + s0) v6 l5 M5)) else zg_GP_poison_135 X l0 l1 l2 l3 l4 l5 M3))) := (zR_step X _).trans rfl
set_option maxRecDepth 50000 in
theorem zg_GP_poison_135_e (X : zv_X) (l0 : Nat) (l1 : Int32) (l2 : Nat) (l3 l4 l5 : Int32) (M : zv_M) : zg_GP_poison_135 X l0 l1 l2 l3 l4 l5 M = zg_GP_poison_61 X l0 l1 l2 l3 l4 (l5 + 1) M := (zR_step X _).trans rfl
set_option maxRecDepth 50000 in
theorem zg_GP_poison_141_e (X : zv_X) (l1 l3 l4 : Int32) (M : zv_M) : zg_GP_poison_141 X l1 l3 l4 M = if l1 = 0 then zg_GP_poison_151 X l3 M else zg_GP_poison_149 X l4 M := (zR_step X _).trans rfl
set_option maxRecDepth 50000 in
theorem zg_GP_poison_149_e (X : zv_X) (l4 : Int32) (M : zv_M) : zg_GP_poison_149 X l4 M = zg_GP_poison_151 X l4 M := (zR_step X _).trans rfl
set_option maxRecDepth 50000 in
theorem zg_GP_poison_151_e (X : zv_X) (s0 : Int32) (M : zv_M) : zg_GP_poison_151 X s0 M = some (some (.int s0), M) := (zR_step X _).trans rfl
set_option maxRecDepth 50000 in
theorem zg_GP_passes_0_e (X : zv_X) (l0 : Nat) (l1 l2 : Int32) (M : zv_M) : zg_GP_passes_0 X l0 l1 l2 M = zv_ob M 11 l0 (zv_rf (M.2.2.2 l0 6) (fun p1 => zv_ob M 11 l0 (zv_rf (M.2.2.2 l0 0) (fun p2 => zv_ob M 8 p1 (zv_cv (zg_Sieve_ready_0 X p1 p2 l2 M) (fun M3 => zv_ob M3 11 l0 (zv_rf (M3.2.2.2 l0 6) (fun p4 => zv_ob M3 8 p4 (zv_ci (zg_Sieve_lets_0 X p4 l1 M3) (fun v6 M5 => zv_rb v6 M5)))))))))) := (zR_step X _).trans rfl
set_option maxRecDepth 50000 in
theorem zg_GP_falses_0_e (X : zv_X) (l0 : Nat) (l1 l2 l3 : Int32) (M : zv_M) : zg_GP_falses_0 X l0 l1 l2 l3 M = if (lg_cmp (((Int32.toInt64 l2) - (Int32.toInt64 l1)) + 1) 1) < 0 then zg_GP_falses_25 X M else if (lg_cmp (((Int32.toInt64 l2) - (Int32.toInt64 l1)) + 1) 5000) ≤ 0 then zg_GP_falses_27 X l0 l1 l3 (((Int32.toInt64 l2) - (Int32.toInt64 l1)) + 1) M else zg_GP_falses_25 X M := (zR_step X _).trans rfl
set_option maxRecDepth 50000 in
theorem zg_GP_falses_25_e (X : zv_X) (M : zv_M) : zg_GP_falses_25 X M = some (some (.int (-1)), M) := (zR_step X _).trans rfl
set_option maxRecDepth 50000 in
theorem zg_GP_falses_27_e (X : zv_X) (l0 : Nat) (l1 l3 : Int32) (l4 : Int64) (M : zv_M) : zg_GP_falses_27 X l0 l1 l3 l4 M = zv_ob M 11 l0 (zv_rf (M.2.2.2 l0 6) (fun p1 => zv_ob M 11 l0 (zv_rf (M.2.2.2 l0 0) (fun p2 => zv_ob M 8 p1 (zv_cv (zg_Sieve_ready_0 X p1 p2 l3 M) (fun M3 => zg_GP_falses_45 X l0 l1 l4 0 0 M3)))))) := (zR_step X _).trans rfl
set_option maxRecDepth 50000 in
theorem zg_GP_falses_45_e (X : zv_X) (l0 : Nat) (l1 : Int32) (l4 : Int64) (l6 l7 : Int32) (M : zv_M) : zg_GP_falses_45 X l0 l1 l4 l6 l7 M = if 0 ≤ (lg_cmp (Int32.toInt64 l7) l4) then zg_GP_falses_94 X l6 M else zv_ob M 11 l0 (zv_rf (M.2.2.2 l0 6) (fun p1 => zv_ob M 8 p1 (zv_ci (zg_Sieve_lets_0 X p1 (l1 + l7) M) (fun v3 M2 => if v3 = 0 then zg_GP_falses_88 X l0 l1 l4 l6 l7 M2 else zv_ob M2 11 l0 (zv_rf (M2.2.2.2 l0 0) (fun p4 => zv_ob M2 9 p4 (zv_rf (M2.2.2.2 p4 0) (fun p5 => zv_ob M2 4 p5 (zv_ci (zg_Keys_has_0 X p5 (l1 + l7) M2) (fun v7 M6 => if v7 = 0 then zg_GP_falses_88 X l0 l1 l4 (l6 + 1) l7 M6 else zg_GP_falses_88 X l0 l1 l4 l6 l7 M6)))))))))) := (zR_step X _).trans rfl
set_option maxRecDepth 50000 in
theorem zg_GP_falses_88_e (X : zv_X) (l0 : Nat) (l1 : Int32) (l4 : Int64) (l6 l7 : Int32) (M : zv_M) : zg_GP_falses_88 X l0 l1 l4 l6 l7 M = zg_GP_falses_45 X l0 l1 l4 l6 (l7 + 1) M := (zR_step X _).trans rfl
set_option maxRecDepth 50000 in
theorem zg_GP_falses_94_e (X : zv_X) (l6 : Int32) (M : zv_M) : zg_GP_falses_94 X l6 M = some (some (.int l6), M) := (zR_step X _).trans rfl
set_option maxRecDepth 50000 in
theorem zg_GP_point_0_e (X : zv_X) (l0 : Nat) (l1 l2 : Int32) (M : zv_M) : zg_GP_point_0 X l0 l1 l2 M = zv_ob M 11 l0 (zv_rf (M.2.2.2 l0 0) (fun p1 => zv_ob M 9 p1 (zv_rf (M.2.2.2 p1 7) (fun p2 => zv_ob M 6 p2 (zv_ci (zg_Plane_addPoint_0 X p2 l1 l2 M) (fun v4 M3 => some (some (.int v4), M3))))))) := (zR_step X _).trans rfl
set_option maxRecDepth 50000 in
theorem zg_GP_box_0_e (X : zv_X) (l0 : Nat) (l1 l2 l3 l4 : Int32) (M : zv_M) : zg_GP_box_0 X l0 l1 l2 l3 l4 M = zv_ob M 11 l0 (zv_rf (M.2.2.2 l0 0) (fun p1 => zv_ob M 9 p1 (zv_rf (M.2.2.2 p1 7) (fun p2 => zv_ob M 6 p2 (zv_ci (zg_Plane_addBox_0 X p2 l1 l2 l3 l4 M) (fun v4 M3 => some (some (.int v4), M3))))))) := (zR_step X _).trans rfl
set_option maxRecDepth 50000 in
theorem zg_GP_boxed_0_e (X : zv_X) (l0 : Nat) (l1 l2 : Int32) (M : zv_M) : zg_GP_boxed_0 X l0 l1 l2 M = if l1 < 0 then zg_GP_boxed_27 X M else zv_ob M 11 l0 (zv_rf (M.2.2.2 l0 0) (fun p1 => zv_ob M 9 p1 (zv_rf (M.2.2.2 p1 7) (fun p2 => zv_ob M 6 p2 (if (M.2.1 p2 4) ≤ l1 then zg_GP_boxed_27 X M else if l2 < 0 then zg_GP_boxed_27 X M else if l2 ≤ 3 then zg_GP_boxed_29 X l0 l1 l2 M else zg_GP_boxed_27 X M))))) := (zR_step X _).trans rfl
