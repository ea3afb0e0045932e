/-! blocks 520 to 650 -/
set_option maxRecDepth 50000 in
theorem zg_M_undo_96_e (X : zv_X) (l0 : Nat) (l1 l4 l5 s0 : Int32) (s1 : Nat) (M : zv_M) : zg_M_undo_96 X l0 l1 l4 l5 s0 s1 M = if l1 = 0 then zg_M_undo_106 X l0 l1 l4 l5 s0 s1 M else zg_M_undo_109 X l0 l1 l4 l5 1260 s0 s1 M := (zR_step X _).trans rfl
set_option maxRecDepth 50000 in
theorem zg_M_undo_106_e (X : zv_X) (l0 : Nat) (l1 l4 l5 s0 : Int32) (s1 : Nat) (M : zv_M) : zg_M_undo_106 X l0 l1 l4 l5 s0 s1 M = zg_M_undo_109 X l0 l1 l4 l5 1220 s0 s1 M := (zR_step X _).trans rfl
set_option maxRecDepth 50000 in
theorem zg_M_undo_109_e (X : zv_X) (l0 : Nat) (l1 l4 l5 s0 s1 : Int32) (s2 : Nat) (M : zv_M) : zg_M_undo_109 X l0 l1 l4 l5 s0 s1 s2 M = zv_ob M 12 s2 (zv_cv (zg_M_pushes_0 X s2 s1 s0 l4 l5 M) (fun M1 => zv_ob M1 12 l0 (zv_ci (zg_M_count_0 X l0 l4 M1) (fun v3 M2 => if l1 = 0 then zg_M_undo_135 X l4 l5 v3 l4 l0 M2 else zg_M_undo_137 X l4 (-l5) v3 l4 l0 M2)))) := (zR_step X _).trans rfl
set_option maxRecDepth 50000 in
theorem zg_M_undo_135_e (X : zv_X) (l4 l5 s0 s1 : Int32) (s2 : Nat) (M : zv_M) : zg_M_undo_135 X l4 l5 s0 s1 s2 M = zg_M_undo_137 X l4 l5 s0 s1 s2 M := (zR_step X _).trans rfl
set_option maxRecDepth 50000 in
theorem zg_M_undo_137_e (X : zv_X) (l4 s0 s1 s2 : Int32) (s3 : Nat) (M : zv_M) : zg_M_undo_137 X l4 s0 s1 s2 s3 M = zv_ob M 12 s3 (zv_cv (zg_M_counts_0 X s3 s2 (s1 + s0) M) (fun M1 => some (some (.int l4), M1))) := (zR_step X _).trans rfl
set_option maxRecDepth 50000 in
theorem zg_M_key_0_e (X : zv_X) (l0 : Nat) (l1 : Int32) (M : zv_M) : zg_M_key_0 X l0 l1 M = zv_ob M 12 l0 (zv_ci (zg_M_laysAll_0 X l0 M) (fun v2 M1 => zv_ci (zg_M_isIn_0 X l1 0 (v2 - 1) M1) (fun v4 M3 => if v4 = 0 then zg_M_key_23 X M3 else zv_ob M3 12 l0 (zv_rf (M3.2.2.2 l0 4) (fun p5 => zv_ix M3 0 p5 l1 (fun j6 => zg_M_key_25 X (M3.2.1 p5 j6) M3)))))) := (zR_step X _).trans rfl
set_option maxRecDepth 50000 in
theorem zg_M_key_23_e (X : zv_X) (M : zv_M) : zg_M_key_23 X M = zg_M_key_25 X (-1000000001) M := (zR_step X _).trans rfl
set_option maxRecDepth 50000 in
theorem zg_M_key_25_e (X : zv_X) (s0 : Int32) (M : zv_M) : zg_M_key_25 X s0 M = some (some (.int s0), M) := (zR_step X _).trans rfl
set_option maxRecDepth 50000 in
theorem zg_M_rank_0_e (X : zv_X) (l0 : Nat) (l1 : Int32) (M : zv_M) : zg_M_rank_0 X l0 l1 M = zv_ob M 12 l0 (zv_ci (zg_M_laysAll_0 X l0 M) (fun v2 M1 => zg_M_rank_10 X l0 l1 v2 0 0 M1)) := (zR_step X _).trans rfl
set_option maxRecDepth 50000 in
theorem zg_M_rank_10_e (X : zv_X) (l0 : Nat) (l1 l2 l3 l4 : Int32) (M : zv_M) : zg_M_rank_10 X l0 l1 l2 l3 l4 M = if l2 ≤ l4 then zg_M_rank_41 X l3 M else zv_ob M 12 l0 (zv_rf (M.2.2.2 l0 4) (fun p1 => zv_ix M 0 p1 l4 (fun j2 => if l1 ≤ (M.2.1 p1 j2) then zg_M_rank_32 X l0 l1 l2 l4 l3 M else zg_M_rank_33 X l0 l1 l2 l4 1 l3 M))) := (zR_step X _).trans rfl
set_option maxRecDepth 50000 in
theorem zg_M_rank_32_e (X : zv_X) (l0 : Nat) (l1 l2 l4 s0 : Int32) (M : zv_M) : zg_M_rank_32 X l0 l1 l2 l4 s0 M = zg_M_rank_33 X l0 l1 l2 l4 0 s0 M := (zR_step X _).trans rfl
set_option maxRecDepth 50000 in
theorem zg_M_rank_33_e (X : zv_X) (l0 : Nat) (l1 l2 l4 s0 s1 : Int32) (M : zv_M) : zg_M_rank_33 X l0 l1 l2 l4 s0 s1 M = zg_M_rank_10 X l0 l1 l2 (s1 + s0) (l4 + 1) M := (zR_step X _).trans rfl
set_option maxRecDepth 50000 in
theorem zg_M_rank_41_e (X : zv_X) (l3 : Int32) (M : zv_M) : zg_M_rank_41 X l3 M = some (some (.int l3), M) := (zR_step X _).trans rfl
set_option maxRecDepth 50000 in
theorem zg_M_range_0_e (X : zv_X) (l0 : Nat) (l1 l2 l3 : Int32) (M : zv_M) : zg_M_range_0 X l0 l1 l2 l3 M = zv_ci (zg_M_isIn_0 X l3 0 2 M) (fun v2 M1 => if v2 = 0 then some (some (.long (-1)), M1) else zg_M_range_13 X l0 l1 l2 l3 M1) := (zR_step X _).trans rfl
set_option maxRecDepth 50000 in
theorem zg_M_range_13_e (X : zv_X) (l0 : Nat) (l1 l2 l3 : Int32) (M : zv_M) : zg_M_range_13 X l0 l1 l2 l3 M = zv_ob M 12 l0 (zv_ci (zg_M_laysAll_0 X l0 M) (fun v2 M1 => zg_M_range_25 X l0 l1 l2 l3 v2 0 0 M1)) := (zR_step X _).trans rfl
set_option maxRecDepth 50000 in
theorem zg_M_range_25_e (X : zv_X) (l0 : Nat) (l1 l2 l3 l4 : Int32) (l5 : Int64) (l7 : Int32) (M : zv_M) : zg_M_range_25 X l0 l1 l2 l3 l4 l5 l7 M = if l4 ≤ l7 then zg_M_range_99 X l5 M else zv_ob M 12 l0 (zv_rf (M.2.2.2 l0 4) (fun p1 => zv_ix M 0 p1 l7 (fun j2 => zv_ci (zg_M_isIn_0 X (M.2.1 p1 j2) l1 l2 M) (fun v4 M3 => if v4 = 0 then zg_M_range_93 X l0 l1 l2 l3 l4 l5 l7 M3 else if l3 = 0 then zg_M_range_90 X l0 l1 l2 l3 l4 l7 1 l5 M3 else zg_M_range_57 X l0 l1 l2 l3 l4 l7 l5 M3)))) := (zR_step X _).trans rfl
set_option maxRecDepth 50000 in
theorem zg_M_range_57_e (X : zv_X) (l0 : Nat) (l1 l2 l3 l4 l7 : Int32) (s0 : Int64) (M : zv_M) : zg_M_range_57 X l0 l1 l2 l3 l4 l7 s0 M = if l3 = 1 then zv_ob M 12 l0 (zv_rf (M.2.2.2 l0 5) (fun p1 => zv_ix M 0 p1 l7 (fun j2 => zg_M_range_90 X l0 l1 l2 l3 l4 l7 (Int32.toInt64 (M.2.1 p1 j2)) s0 M))) else zg_M_range_73 X l0 l1 l2 l3 l4 l7 s0 M := (zR_step X _).trans rfl
set_option maxRecDepth 50000 in
theorem zg_M_range_73_e (X : zv_X) (l0 : Nat) (l1 l2 l3 l4 l7 : Int32) (s0 : Int64) (M : zv_M) : zg_M_range_73 X l0 l1 l2 l3 l4 l7 s0 M = zv_ob M 12 l0 (zv_rf (M.2.2.2 l0 4) (fun p1 => zv_ix M 0 p1 l7 (fun j2 => zv_ob M 12 l0 (zv_rf (M.2.2.2 l0 5) (fun p3 => zv_ix M 0 p3 l7 (fun j4 => zg_M_range_90 X l0 l1 l2 l3 l4 l7 ((Int32.toInt64 (M.2.1 p1 j2)) * (Int32.toInt64 (M.2.1 p3 j4))) s0 M)))))) := (zR_step X _).trans rfl
set_option maxRecDepth 50000 in
theorem zg_M_range_90_e (X : zv_X) (l0 : Nat) (l1 l2 l3 l4 l7 : Int32) (s0 s1 : Int64) (M : zv_M) : zg_M_range_90 X l0 l1 l2 l3 l4 l7 s0 s1 M = zg_M_range_93 X l0 l1 l2 l3 l4 (s1 + s0) l7 M := (zR_step X _).trans rfl
set_option maxRecDepth 50000 in
theorem zg_M_range_93_e (X : zv_X) (l0 : Nat) (l1 l2 l3 l4 : Int32) (l5 : Int64) (l7 : Int32) (M : zv_M) : zg_M_range_93 X l0 l1 l2 l3 l4 l5 l7 M = zg_M_range_25 X l0 l1 l2 l3 l4 l5 (l7 + 1) M := (zR_step X _).trans rfl
set_option maxRecDepth 50000 in
theorem zg_M_range_99_e (X : zv_X) (l5 : Int64) (M : zv_M) : zg_M_range_99 X l5 M = some (some (.long l5), M) := (zR_step X _).trans rfl
set_option maxRecDepth 50000 in
theorem zg_M_feed_0_e (X : zv_X) (l0 : Nat) (l1 l2 l3 l4 l5 : Int32) (M : zv_M) : zg_M_feed_0 X l0 l1 l2 l3 l4 l5 M = zv_ob M 12 l0 (if ((M.2.1 l0 7) + 20) ≤ 600 then zg_M_feed_15 X l0 l1 l2 l3 l4 l5 M else some (some (.int (-1)), M)) := (zR_step X _).trans rfl
set_option maxRecDepth 50000 in
theorem zg_M_feed_15_e (X : zv_X) (l0 : Nat) (l1 l2 l3 l4 l5 : Int32) (M : zv_M) : zg_M_feed_15 X l0 l1 l2 l3 l4 l5 M = zg_M_feed_18 X l0 l1 l2 l3 l4 l5 0 M := (zR_step X _).trans rfl
set_option maxRecDepth 50000 in
theorem zg_M_feed_18_e (X : zv_X) (l0 : Nat) (l1 l2 l3 l4 l5 l6 : Int32) (M : zv_M) : zg_M_feed_18 X l0 l1 l2 l3 l4 l5 l6 M = if 20 ≤ l6 then zg_M_feed_115 X l0 M else if 4 ≤ l6 then zg_M_feed_35 X l0 l1 l2 l3 l4 l5 l6 M else zg_M_feed_71 X l0 l1 l2 l3 l4 l5 l6 l1 M := (zR_step X _).trans rfl
set_option maxRecDepth 50000 in
theorem zg_M_feed_35_e (X : zv_X) (l0 : Nat) (l1 l2 l3 l4 l5 l6 : Int32) (M : zv_M) : zg_M_feed_35 X l0 l1 l2 l3 l4 l5 l6 M = if 8 ≤ l6 then zg_M_feed_46 X l0 l1 l2 l3 l4 l5 l6 M else zg_M_feed_71 X l0 l1 l2 l3 l4 l5 l6 l2 M := (zR_step X _).trans rfl
set_option maxRecDepth 50000 in
theorem zg_M_feed_46_e (X : zv_X) (l0 : Nat) (l1 l2 l3 l4 l5 l6 : Int32) (M : zv_M) : zg_M_feed_46 X l0 l1 l2 l3 l4 l5 l6 M = if 12 ≤ l6 then zg_M_feed_57 X l0 l1 l2 l3 l4 l5 l6 M else zg_M_feed_71 X l0 l1 l2 l3 l4 l5 l6 l3 M := (zR_step X _).trans rfl
set_option maxRecDepth 50000 in
theorem zg_M_feed_57_e (X : zv_X) (l0 : Nat) (l1 l2 l3 l4 l5 l6 : Int32) (M : zv_M) : zg_M_feed_57 X l0 l1 l2 l3 l4 l5 l6 M = if 16 ≤ l6 then zg_M_feed_69 X l0 l1 l2 l3 l4 l5 l6 M else zg_M_feed_71 X l0 l1 l2 l3 l4 l5 l6 l4 M := (zR_step X _).trans rfl
set_option maxRecDepth 50000 in
theorem zg_M_feed_69_e (X : zv_X) (l0 : Nat) (l1 l2 l3 l4 l5 l6 : Int32) (M : zv_M) : zg_M_feed_69 X l0 l1 l2 l3 l4 l5 l6 M = zg_M_feed_71 X l0 l1 l2 l3 l4 l5 l6 l5 M := (zR_step X _).trans rfl
set_option maxRecDepth 50000 in
theorem zg_M_feed_71_e (X : zv_X) (l0 : Nat) (l1 l2 l3 l4 l5 l6 s0 : Int32) (M : zv_M) : zg_M_feed_71 X l0 l1 l2 l3 l4 l5 l6 s0 M = zv_ob M 12 l0 (zv_rf (M.2.2.2 l0 6) (fun p1 => zv_ob M 12 l0 (if (4 : Int32) = 0 then none else zv_ix M 0 p1 (M.2.1 l0 7) (fun j2 => zv_ob (zv_wI M p1 j2 ((s0 >>> ((24 - (8 * (l6 - l6 / 4 * 4))) &&& 31)) &&& 255)) 12 l0 (zv_ob (zv_wI M p1 j2 ((s0 >>> ((24 - (8 * (l6 - l6 / 4 * 4))) &&& 31)) &&& 255)) 12 l0 (zg_M_feed_18 X l0 l1 l2 l3 l4 l5 (l6 + 1) (zv_wI (zv_wI M p1 j2 ((s0 >>> ((24 - (8 * (l6 - l6 / 4 * 4))) &&& 31)) &&& 255)) l0 7 (((zv_wI M p1 j2 ((s0 >>> ((24 - (8 * (l6 - l6 / 4 * 4))) &&& 31)) &&& 255)).2.1 l0 7) + 1)))))))) := (zR_step X _).trans rfl
set_option maxRecDepth 50000 in
theorem zg_M_feed_115_e (X : zv_X) (l0 : Nat) (M : zv_M) : zg_M_feed_115 X l0 M = zv_ob M 12 l0 (some (some (.int (M.2.1 l0 7)), M)) := (zR_step X _).trans rfl
set_option maxRecDepth 50000 in
theorem zg_M_end_0_e (X : zv_X) (l0 : Nat) (l1 : Int32) (M : zv_M) : zg_M_end_0 X l0 l1 M = zv_ob M 12 l0 (zv_ci (zg_M_isIn_0 X l1 0 (M.2.1 l0 7) M) (fun v2 M1 => if v2 = 0 then zv_rb 0 M1 else zg_M_end_14 X l0 l1 M1)) := (zR_step X _).trans rfl
set_option maxRecDepth 50000 in
theorem zg_M_end_14_e (X : zv_X) (l0 : Nat) (l1 : Int32) (M : zv_M) : zg_M_end_14 X l0 l1 M = zv_ob M 12 l0 (zv_rb 1 (zv_wI M l0 7 l1)) := (zR_step X _).trans rfl
set_option maxRecDepth 50000 in
theorem zg_M_see_0_e (X : zv_X) (l0 : Nat) (l1 : Int32) (M : zv_M) : zg_M_see_0 X l0 l1 M = zv_ob M 12 l0 (if (M.2.1 l0 7) ≤ l1 then zg_M_see_17 X M else zv_ob M 12 l0 (zv_rf (M.2.2.2 l0 6) (fun p1 => zv_ix M 0 p1 l1 (fun j2 => zg_M_see_18 X (M.2.1 p1 j2) M)))) := (zR_step X _).trans rfl
set_option maxRecDepth 50000 in
theorem zg_M_see_17_e (X : zv_X) (M : zv_M) : zg_M_see_17 X M = zg_M_see_18 X (-1) M := (zR_step X _).trans rfl
set_option maxRecDepth 50000 in
theorem zg_M_see_18_e (X : zv_X) (s0 : Int32) (M : zv_M) : zg_M_see_18 X s0 M = some (some (.int s0), M) := (zR_step X _).trans rfl
set_option maxRecDepth 50000 in
theorem zg_M_isLetter_0_e (X : zv_X) (l0 : Int32) (M : zv_M) : zg_M_isLetter_0 X l0 M = zv_ci (zg_M_isIn_0 X l0 97 122 M) (fun v2 M1 => if v2 = 0 then zv_ci (zg_M_isIn_0 X l0 65 90 M1) (fun v4 M3 => if v4 = 0 then zg_M_isLetter_26 X M3 else zg_M_isLetter_22 X M3) else zg_M_isLetter_22 X M1) := (zR_step X _).trans rfl
set_option maxRecDepth 50000 in
theorem zg_M_isLetter_22_e (X : zv_X) (M : zv_M) : zg_M_isLetter_22 X M = zg_M_isLetter_27 X 1 M := (zR_step X _).trans rfl
set_option maxRecDepth 50000 in
theorem zg_M_isLetter_26_e (X : zv_X) (M : zv_M) : zg_M_isLetter_26 X M = zg_M_isLetter_27 X 0 M := (zR_step X _).trans rfl
set_option maxRecDepth 50000 in
theorem zg_M_isLetter_27_e (X : zv_X) (s0 : Int32) (M : zv_M) : zg_M_isLetter_27 X s0 M = zv_rb s0 M := (zR_step X _).trans rfl
set_option maxRecDepth 50000 in
theorem zg_M_isDigit_0_e (X : zv_X) (l0 : Int32) (M : zv_M) : zg_M_isDigit_0 X l0 M = zv_ci (zg_M_isIn_0 X l0 48 57 M) (fun v2 M1 => zv_rb v2 M1) := (zR_step X _).trans rfl
set_option maxRecDepth 50000 in
theorem zg_M_is_0_e (X : zv_X) (l0 l1 : Nat) (M : zv_M) : zg_M_is_0 X l0 l1 M = zv_ob M 12 l0 (zv_ob M 12 l0 (if l1 = 90 then none else if 20 ≤ l1 ∧ l1 < 27 ∧ 22 = 22 then zv_ci (zg_Str_length_0 X l1 M) (fun v2 M1 => if ((M.2.1 l0 8) - (M.2.1 l0 10)) = v2 then zg_M_is_21 X l0 l1 1 M1 else zg_M_is_20 X l0 l1 M1) else none)) := (zR_step X _).trans rfl
set_option maxRecDepth 50000 in
theorem zg_M_is_20_e (X : zv_X) (l0 l1 : Nat) (M : zv_M) : zg_M_is_20 X l0 l1 M = zg_M_is_21 X l0 l1 0 M := (zR_step X _).trans rfl
set_option maxRecDepth 50000 in
theorem zg_M_is_21_e (X : zv_X) (l0 l1 : Nat) (s0 : Int32) (M : zv_M) : zg_M_is_21 X l0 l1 s0 M = zg_M_is_24 X l0 l1 s0 0 M := (zR_step X _).trans rfl
set_option maxRecDepth 50000 in
theorem zg_M_is_24_e (X : zv_X) (l0 l1 : Nat) (l2 l3 : Int32) (M : zv_M) : zg_M_is_24 X l0 l1 l2 l3 M = if l1 = 90 then none else if 20 ≤ l1 ∧ l1 < 27 ∧ 22 = 22 then zv_ci (zg_Str_length_0 X l1 M) (fun v2 M1 => if v2 ≤ l3 then zg_M_is_67 X l2 M1 else if l2 = 0 then zg_M_is_67 X l2 M1 else zv_ob M1 12 l0 (zv_rf (M1.2.2.2 l0 6) (fun p3 => zv_ob M1 12 l0 (zv_ix M1 0 p3 ((M1.2.1 l0 10) + l3) (fun j4 => if l1 = 90 then none else if 20 ≤ l1 ∧ l1 < 27 ∧ 22 = 22 then zv_ci (zg_Str_charAt_0 X l1 l3 M1) (fun v6 M5 => if (M1.2.1 p3 j4) = v6 then zg_M_is_60 X l0 l1 l3 1 M5 else zg_M_is_59 X l0 l1 l3 M5) else none))))) else none := (zR_step X _).trans rfl
set_option maxRecDepth 50000 in
theorem zg_M_is_59_e (X : zv_X) (l0 l1 : Nat) (l3 : Int32) (M : zv_M) : zg_M_is_59 X l0 l1 l3 M = zg_M_is_60 X l0 l1 l3 0 M := (zR_step X _).trans rfl
set_option maxRecDepth 50000 in
theorem zg_M_is_60_e (X : zv_X) (l0 l1 : Nat) (l3 s0 : Int32) (M : zv_M) : zg_M_is_60 X l0 l1 l3 s0 M = zg_M_is_24 X l0 l1 s0 (l3 + 1) M := (zR_step X _).trans rfl
set_option maxRecDepth 50000 in
theorem zg_M_is_67_e (X : zv_X) (l2 : Int32) (M : zv_M) : zg_M_is_67 X l2 M = zv_rb l2 M := (zR_step X _).trans rfl
set_option maxRecDepth 50000 in
theorem zg_M_word_0_e (X : zv_X) (l0 : Nat) (M : zv_M) : zg_M_word_0 X l0 M = zv_ob M 12 l0 (zv_ci (zg_M_is_0 X l0 20 M) (fun v2 M1 => if v2 = 0 then zg_M_word_11 X l0 M1 else some (some (.int 4), M1))) := (zR_step X _).trans rfl
set_option maxRecDepth 50000 in
theorem zg_M_word_11_e (X : zv_X) (l0 : Nat) (M : zv_M) : zg_M_word_11 X l0 M = zv_ob M 12 l0 (zv_ci (zg_M_is_0 X l0 21 M) (fun v2 M1 => if v2 = 0 then zg_M_word_22 X l0 M1 else some (some (.int 5), M1))) := (zR_step X _).trans rfl
set_option maxRecDepth 50000 in
theorem zg_M_word_22_e (X : zv_X) (l0 : Nat) (M : zv_M) : zg_M_word_22 X l0 M = zv_ob M 12 l0 (zv_ci (zg_M_is_0 X l0 22 M) (fun v2 M1 => if v2 = 0 then zg_M_word_34 X l0 M1 else some (some (.int 6), M1))) := (zR_step X _).trans rfl
set_option maxRecDepth 50000 in
theorem zg_M_word_34_e (X : zv_X) (l0 : Nat) (M : zv_M) : zg_M_word_34 X l0 M = zv_ob M 12 l0 (zv_ci (zg_M_is_0 X l0 23 M) (fun v2 M1 => if v2 = 0 then zg_M_word_46 X l0 M1 else some (some (.int 7), M1))) := (zR_step X _).trans rfl
set_option maxRecDepth 50000 in
theorem zg_M_word_46_e (X : zv_X) (l0 : Nat) (M : zv_M) : zg_M_word_46 X l0 M = zv_ob M 12 l0 (zv_ci (zg_M_is_0 X l0 24 M) (fun v2 M1 => if v2 = 0 then zg_M_word_58 X l0 M1 else some (some (.int 8), M1))) := (zR_step X _).trans rfl
set_option maxRecDepth 50000 in
theorem zg_M_word_58_e (X : zv_X) (l0 : Nat) (M : zv_M) : zg_M_word_58 X l0 M = zv_ob M 12 l0 (zv_ci (zg_M_is_0 X l0 25 M) (fun v2 M1 => if v2 = 0 then zg_M_word_72 X M1 else zg_M_word_73 X 9 M1)) := (zR_step X _).trans rfl
set_option maxRecDepth 50000 in
theorem zg_M_word_72_e (X : zv_X) (M : zv_M) : zg_M_word_72 X M = zg_M_word_73 X 1 M := (zR_step X _).trans rfl
set_option maxRecDepth 50000 in
theorem zg_M_word_73_e (X : zv_X) (s0 : Int32) (M : zv_M) : zg_M_word_73 X s0 M = some (some (.int s0), M) := (zR_step X _).trans rfl
set_option maxRecDepth 50000 in
theorem zg_M_next0_0_e (X : zv_X) (l0 : Nat) (M : zv_M) : zg_M_next0_0 X l0 M = zv_ob M 12 l0 (zv_ob M 12 l0 (zv_ci (zg_M_see_0 X l0 (M.2.1 l0 8) M) (fun v2 M1 => if v2 = 32 then zg_M_next0_26 X l0 M1 else zv_ob M1 12 l0 (zv_ob M1 12 l0 (zv_ci (zg_M_see_0 X l0 (M1.2.1 l0 8) M1) (fun v4 M3 => if v4 = 10 then zg_M_next0_26 X l0 M3 else zg_M_next0_39 X l0 M3)))))) := (zR_step X _).trans rfl
set_option maxRecDepth 50000 in
theorem zg_M_next0_26_e (X : zv_X) (l0 : Nat) (M : zv_M) : zg_M_next0_26 X l0 M = zv_ob M 12 l0 (zv_ob M 12 l0 (zg_M_next0_0 X l0 (zv_wI M l0 8 ((M.2.1 l0 8) + 1)))) := (zR_step X _).trans rfl
set_option maxRecDepth 50000 in
theorem zg_M_next0_39_e (X : zv_X) (l0 : Nat) (M : zv_M) : zg_M_next0_39 X l0 M = zv_ob M 12 l0 (zv_ob M 12 l0 (zv_ob (zv_wI M l0 10 (M.2.1 l0 8)) 12 l0 (zv_ob (zv_wI M l0 10 (M.2.1 l0 8)) 12 l0 (zv_ci (zg_M_see_0 X l0 ((zv_wI M l0 10 (M.2.1 l0 8)).2.1 l0 8) (zv_wI M l0 10 (M.2.1 l0 8))) (fun v2 M1 => if v2 = (-1) then zv_ob M1 12 l0 (zg_M_next0_308 X (zv_wI M1 l0 9 0)) else zg_M_next0_69 X l0 v2 M1))))) := (zR_step X _).trans rfl
set_option maxRecDepth 50000 in
theorem zg_M_next0_69_e (X : zv_X) (l0 : Nat) (l1 : Int32) (M : zv_M) : zg_M_next0_69 X l0 l1 M = zv_ci (zg_M_isLetter_0 X l1 M) (fun v2 M1 => if v2 = 0 then zg_M_next0_114 X l0 l1 M1 else zg_M_next0_76 X l0 M1) := (zR_step X _).trans rfl
set_option maxRecDepth 50000 in
theorem zg_M_next0_76_e (X : zv_X) (l0 : Nat) (M : zv_M) : zg_M_next0_76 X l0 M = zv_ob M 12 l0 (zv_ob M 12 l0 (zv_ci (zg_M_see_0 X l0 (M.2.1 l0 8) M) (fun v2 M1 => zv_ci (zg_M_isLetter_0 X v2 M1) (fun v4 M3 => if v4 = 0 then zg_M_next0_103 X l0 M3 else zv_ob M3 12 l0 (zv_ob M3 12 l0 (zg_M_next0_76 X l0 (zv_wI M3 l0 8 ((M3.2.1 l0 8) + 1)))))))) := (zR_step X _).trans rfl
set_option maxRecDepth 50000 in
theorem zg_M_next0_103_e (X : zv_X) (l0 : Nat) (M : zv_M) : zg_M_next0_103 X l0 M = zv_ob M 12 l0 (zv_ci (zg_M_word_0 X l0 M) (fun v2 M1 => zv_ob M1 12 l0 (zg_M_next0_308 X (zv_wI M1 l0 9 v2)))) := (zR_step X _).trans rfl
set_option maxRecDepth 50000 in
theorem zg_M_next0_114_e (X : zv_X) (l0 : Nat) (l1 : Int32) (M : zv_M) : zg_M_next0_114 X l0 l1 M = zv_ci (zg_M_isDigit_0 X l1 M) (fun v2 M1 => if v2 = 0 then if l1 = 45 then zv_ob M1 12 l0 (zv_ob M1 12 l0 (zv_ci (zg_M_see_0 X l0 ((M1.2.1 l0 8) + 1) M1) (fun v4 M3 => zv_ci (zg_M_isDigit_0 X v4 M3) (fun v6 M5 => if v6 = 0 then zg_M_next0_283 X l0 l1 M5 else zg_M_next0_143 X l0 l1 M5)))) else zg_M_next0_283 X l0 l1 M1 else zg_M_next0_143 X l0 l1 M1) := (zR_step X _).trans rfl
set_option maxRecDepth 50000 in
theorem zg_M_next0_143_e (X : zv_X) (l0 : Nat) (l1 : Int32) (M : zv_M) : zg_M_next0_143 X l0 l1 M = if l1 = 45 then zg_M_next0_154 X l0 1 M else zg_M_next0_153 X l0 M := (zR_step X _).trans rfl
set_option maxRecDepth 50000 in
theorem zg_M_next0_153_e (X : zv_X) (l0 : Nat) (M : zv_M) : zg_M_next0_153 X l0 M = zg_M_next0_154 X l0 0 M := (zR_step X _).trans rfl
set_option maxRecDepth 50000 in
theorem zg_M_next0_154_e (X : zv_X) (l0 : Nat) (s0 : Int32) (M : zv_M) : zg_M_next0_154 X l0 s0 M = if s0 = 0 then zg_M_next0_169 X l0 s0 M else zv_ob M 12 l0 (zv_ob M 12 l0 (zg_M_next0_169 X l0 s0 (zv_wI M l0 8 ((M.2.1 l0 8) + 1)))) := (zR_step X _).trans rfl
set_option maxRecDepth 50000 in
theorem zg_M_next0_169_e (X : zv_X) (l0 : Nat) (l2 : Int32) (M : zv_M) : zg_M_next0_169 X l0 l2 M = zv_ob M 12 l0 (zv_ob M 12 l0 (zg_M_next0_179 X l0 l2 (M.2.1 l0 8) (zv_wI M l0 11 0))) := (zR_step X _).trans rfl
set_option maxRecDepth 50000 in
theorem zg_M_next0_179_e (X : zv_X) (l0 : Nat) (l2 l3 : Int32) (M : zv_M) : zg_M_next0_179 X l0 l2 l3 M = zv_ob M 12 l0 (zv_ob M 12 l0 (zv_ci (zg_M_see_0 X l0 (M.2.1 l0 8) M) (fun v2 M1 => zv_ci (zg_M_isDigit_0 X v2 M1) (fun v4 M3 => if v4 = 0 then zg_M_next0_240 X l0 l2 l3 M3 else zv_ob M3 12 l0 (if (l3 + 9) ≤ (M3.2.1 l0 8) then zg_M_next0_227 X l0 l2 l3 M3 else zv_ob M3 12 l0 (zv_ob M3 12 l0 (zv_ob M3 12 l0 (zv_ci (zg_M_see_0 X l0 (M3.2.1 l0 8) M3) (fun v6 M5 => zv_ob M5 12 l0 (zg_M_next0_227 X l0 l2 l3 (zv_wI M5 l0 11 (((10 * (M3.2.1 l0 11)) + v6) - 48)))))))))))) := (zR_step X _).trans rfl
set_option maxRecDepth 50000 in
theorem zg_M_next0_227_e (X : zv_X) (l0 : Nat) (l2 l3 : Int32) (M : zv_M) : zg_M_next0_227 X l0 l2 l3 M = zv_ob M 12 l0 (zv_ob M 12 l0 (zg_M_next0_179 X l0 l2 l3 (zv_wI M l0 8 ((M.2.1 l0 8) + 1)))) := (zR_step X _).trans rfl
set_option maxRecDepth 50000 in
theorem zg_M_next0_240_e (X : zv_X) (l0 : Nat) (l2 l3 : Int32) (M : zv_M) : zg_M_next0_240 X l0 l2 l3 M = if l2 = 0 then zg_M_next0_253 X l0 l3 l0 M else zv_ob M 12 l0 (zg_M_next0_257 X l0 l3 (-(M.2.1 l0 11)) l0 M) := (zR_step X _).trans rfl
set_option maxRecDepth 50000 in
theorem zg_M_next0_253_e (X : zv_X) (l0 : Nat) (l3 : Int32) (s0 : Nat) (M : zv_M) : zg_M_next0_253 X l0 l3 s0 M = zv_ob M 12 l0 (zg_M_next0_257 X l0 l3 (M.2.1 l0 11) s0 M) := (zR_step X _).trans rfl
set_option maxRecDepth 50000 in
theorem zg_M_next0_257_e (X : zv_X) (l0 : Nat) (l3 s0 : Int32) (s1 : Nat) (M : zv_M) : zg_M_next0_257 X l0 l3 s0 s1 M = zv_ob M 12 s1 (zv_ob (zv_wI M s1 11 s0) 12 l0 (if 10 ≤ (((zv_wI M s1 11 s0).2.1 l0 8) - l3) then zg_M_next0_276 X l0 (zv_wI M s1 11 s0) else zg_M_next0_277 X 2 l0 (zv_wI M s1 11 s0))) := (zR_step X _).trans rfl
set_option maxRecDepth 50000 in
theorem zg_M_next0_276_e (X : zv_X) (s0 : Nat) (M : zv_M) : zg_M_next0_276 X s0 M = zg_M_next0_277 X 1 s0 M := (zR_step X _).trans rfl
set_option maxRecDepth 50000 in
theorem zg_M_next0_277_e (X : zv_X) (s0 : Int32) (s1 : Nat) (M : zv_M) : zg_M_next0_277 X s0 s1 M = zv_ob M 12 s1 (zg_M_next0_308 X (zv_wI M s1 9 s0)) := (zR_step X _).trans rfl
set_option maxRecDepth 50000 in
theorem zg_M_next0_283_e (X : zv_X) (l0 : Nat) (l1 : Int32) (M : zv_M) : zg_M_next0_283 X l0 l1 M = zv_ob M 12 l0 (zv_ob M 12 l0 (if l1 = 59 then zg_M_next0_305 X 3 l0 (zv_wI M l0 8 ((M.2.1 l0 8) + 1)) else zg_M_next0_304 X l0 (zv_wI M l0 8 ((M.2.1 l0 8) + 1)))) := (zR_step X _).trans rfl
set_option maxRecDepth 50000 in
theorem zg_M_next0_304_e (X : zv_X) (s0 : Nat) (M : zv_M) : zg_M_next0_304 X s0 M = zg_M_next0_305 X 1 s0 M := (zR_step X _).trans rfl
set_option maxRecDepth 50000 in
theorem zg_M_next0_305_e (X : zv_X) (s0 : Int32) (s1 : Nat) (M : zv_M) : zg_M_next0_305 X s0 s1 M = zv_ob M 12 s1 (zg_M_next0_308 X (zv_wI M s1 9 s0)) := (zR_step X _).trans rfl
set_option maxRecDepth 50000 in
theorem zg_M_next0_308_e (X : zv_X) (M : zv_M) : zg_M_next0_308 X M = some (none, M) := (zR_step X _).trans rfl
set_option maxRecDepth 50000 in
theorem zg_M_bad_0_e (X : zv_X) (l0 : Nat) (l1 l2 : Int32) (M : zv_M) : zg_M_bad_0 X l0 l1 l2 M = zv_ob M 12 l0 (zv_ob (zv_wI M l0 12 l1) 12 l0 (zv_rb 0 (zv_wI (zv_wI M l0 12 l1) l0 13 l2))) := (zR_step X _).trans rfl
set_option maxRecDepth 50000 in
theorem zg_M_number_0_e (X : zv_X) (l0 : Nat) (l1 l2 : Int32) (M : zv_M) : zg_M_number_0 X l0 l1 l2 M = zv_ob M 12 l0 (if (M.2.1 l0 9) = 2 then zg_M_number_18 X l0 l1 l2 M else zv_ob M 12 l0 (zv_ob M 12 l0 (zv_ci (zg_M_bad_0 X l0 1 (M.2.1 l0 10) M) (fun v2 M1 => zv_rb v2 M1)))) := (zR_step X _).trans rfl
set_option maxRecDepth 50000 in
theorem zg_M_number_18_e (X : zv_X) (l0 : Nat) (l1 l2 : Int32) (M : zv_M) : zg_M_number_18 X l0 l1 l2 M = zv_ob M 12 l0 (zv_ci (zg_M_isIn_0 X (M.2.1 l0 11) l1 l2 M) (fun v2 M1 => if v2 = 0 then zv_ob M1 12 l0 (zv_ob M1 12 l0 (zv_ci (zg_M_bad_0 X l0 2 (M1.2.1 l0 10) M1) (fun v4 M3 => zv_rb v4 M3))) else zg_M_number_40 X l0 M1)) := (zR_step X _).trans rfl
set_option maxRecDepth 50000 in
theorem zg_M_number_40_e (X : zv_X) (l0 : Nat) (M : zv_M) : zg_M_number_40 X l0 M = zv_ob M 12 l0 (zv_ob M 12 l0 (zv_ob (zv_wI M l0 16 (M.2.1 l0 11)) 12 l0 (zv_cv (zg_M_next0_0 X l0 (zv_wI M l0 16 (M.2.1 l0 11))) (fun M1 => zv_rb 1 M1)))) := (zR_step X _).trans rfl
set_option maxRecDepth 50000 in
theorem zg_M_comes_0_e (X : zv_X) (l0 : Nat) (l1 l2 : Int32) (M : zv_M) : zg_M_comes_0 X l0 l1 l2 M = zv_ob M 12 l0 (zv_ci (zg_M_count_0 X l0 l1 M) (fun v2 M1 => if 99 < (v2 + l2) then zg_M_comes_28 X M1 else if v2 = 0 then zv_ob M1 12 l0 (zv_ci (zg_M_keys_0 X l0 M1) (fun v4 M3 => if v4 = 300 then zg_M_comes_28 X M3 else zg_M_comes_30 X l0 l1 l2 v2 M3)) else zg_M_comes_30 X l0 l1 l2 v2 M1)) := (zR_step X _).trans rfl
set_option maxRecDepth 50000 in
theorem zg_M_comes_28_e (X : zv_X) (M : zv_M) : zg_M_comes_28 X M = zv_rb 0 M := (zR_step X _).trans rfl
set_option maxRecDepth 50000 in
theorem zg_M_comes_30_e (X : zv_X) (l0 : Nat) (l1 l2 l3 : Int32) (M : zv_M) : zg_M_comes_30 X l0 l1 l2 l3 M = zv_ob M 12 l0 (zv_cv (zg_M_counts_0 X l0 l1 (l3 + l2) M) (fun M1 => zv_rb 1 M1)) := (zR_step X _).trans rfl
set_option maxRecDepth 50000 in
theorem zg_M_aKey_0_e (X : zv_X) (l0 : Nat) (l1 : Int32) (M : zv_M) : zg_M_aKey_0 X l0 l1 M = zv_ob M 12 l0 (zv_ci (zg_M_number_0 X l0 (-999999999) 999999999 M) (fun v2 M1 => if v2 = 0 then zv_rb 0 M1 else zg_M_aKey_13 X l0 l1 M1)) := (zR_step X _).trans rfl
set_option maxRecDepth 50000 in
theorem zg_M_aKey_13_e (X : zv_X) (l0 : Nat) (l1 : Int32) (M : zv_M) : zg_M_aKey_13 X l0 l1 M = zv_ob M 12 l0 (zv_ob M 12 l0 (if (M.2.1 l0 9) = 2 then zv_ob M 12 l0 (zv_ci (zg_M_number_0 X l0 1 99 M) (fun v2 M1 => if v2 = 0 then zv_rb 0 M1 else zg_M_aKey_40 X l0 l1 (M.2.1 l0 16) M1)) else zg_M_aKey_45 X l0 l1 (M.2.1 l0 16) 1 M)) := (zR_step X _).trans rfl
set_option maxRecDepth 50000 in
theorem zg_M_aKey_40_e (X : zv_X) (l0 : Nat) (l1 l2 : Int32) (M : zv_M) : zg_M_aKey_40 X l0 l1 l2 M = zv_ob M 12 l0 (zg_M_aKey_45 X l0 l1 l2 (M.2.1 l0 16) M) := (zR_step X _).trans rfl
set_option maxRecDepth 50000 in
theorem zg_M_aKey_45_e (X : zv_X) (l0 : Nat) (l1 l2 l3 : Int32) (M : zv_M) : zg_M_aKey_45 X l0 l1 l2 l3 M = zv_ob M 12 l0 (zv_ci (zg_M_comes_0 X l0 l2 l3 M) (fun v2 M1 => if v2 = 0 then zv_ob M1 12 l0 (zv_ci (zg_M_bad_0 X l0 3 l1 M1) (fun v4 M3 => if v4 = 0 then zg_M_aKey_67 X M3 else zg_M_aKey_63 X M3)) else zg_M_aKey_63 X M1)) := (zR_step X _).trans rfl
set_option maxRecDepth 50000 in
theorem zg_M_aKey_63_e (X : zv_X) (M : zv_M) : zg_M_aKey_63 X M = zg_M_aKey_68 X 1 M := (zR_step X _).trans rfl
set_option maxRecDepth 50000 in
theorem zg_M_aKey_67_e (X : zv_X) (M : zv_M) : zg_M_aKey_67 X M = zg_M_aKey_68 X 0 M := (zR_step X _).trans rfl
set_option maxRecDepth 50000 in
theorem zg_M_aKey_68_e (X : zv_X) (s0 : Int32) (M : zv_M) : zg_M_aKey_68 X s0 M = zv_rb s0 M := (zR_step X _).trans rfl
set_option maxRecDepth 50000 in
theorem zg_M_aRun_0_e (X : zv_X) (l0 : Nat) (l1 : Int32) (M : zv_M) : zg_M_aRun_0 X l0 l1 M = zv_ob M 12 l0 (zv_ci (zg_M_number_0 X l0 (-999999999) 999999999 M) (fun v2 M1 => if v2 = 0 then zv_rb 0 M1 else zg_M_aRun_13 X l0 l1 M1)) := (zR_step X _).trans rfl
set_option maxRecDepth 50000 in
theorem zg_M_aRun_13_e (X : zv_X) (l0 : Nat) (l1 : Int32) (M : zv_M) : zg_M_aRun_13 X l0 l1 M = zv_ob M 12 l0 (zv_ob M 12 l0 (zv_ci (zg_M_number_0 X l0 1 99 M) (fun v2 M1 => if v2 = 0 then zv_rb 0 M1 else zg_M_aRun_30 X l0 l1 (M.2.1 l0 16) M1))) := (zR_step X _).trans rfl
set_option maxRecDepth 50000 in
theorem zg_M_aRun_30_e (X : zv_X) (l0 : Nat) (l1 l2 : Int32) (M : zv_M) : zg_M_aRun_30 X l0 l1 l2 M = zv_ob M 12 l0 (zv_ob M 12 l0 (zv_ob M 12 l0 (zv_ci (zg_M_number_0 X l0 1 99999 M) (fun v2 M1 => if v2 = 0 then zv_rb 0 M1 else zg_M_aRun_53 X l0 l1 l2 (M.2.1 l0 16) (M.2.1 l0 10) M1)))) := (zR_step X _).trans rfl
set_option maxRecDepth 50000 in
theorem zg_M_aRun_53_e (X : zv_X) (l0 : Nat) (l1 l2 l3 l4 : Int32) (M : zv_M) : zg_M_aRun_53 X l0 l1 l2 l3 l4 M = zv_ob M 12 l0 (if (lg_cmp ((Int32.toInt64 l2) + ((Int32.toInt64 (l3 - 1)) * (Int32.toInt64 (M.2.1 l0 16)))) 999999999) ≤ 0 then zg_M_aRun_81 X l0 l1 l2 l3 M else zv_ob M 12 l0 (zv_ci (zg_M_bad_0 X l0 2 l4 M) (fun v2 M1 => zv_rb v2 M1))) := (zR_step X _).trans rfl
set_option maxRecDepth 50000 in
theorem zg_M_aRun_81_e (X : zv_X) (l0 : Nat) (l1 l2 l3 : Int32) (M : zv_M) : zg_M_aRun_81 X l0 l1 l2 l3 M = zg_M_aRun_84 X l0 l1 l2 l3 0 M := (zR_step X _).trans rfl
set_option maxRecDepth 50000 in
theorem zg_M_aRun_84_e (X : zv_X) (l0 : Nat) (l1 l2 l3 l5 : Int32) (M : zv_M) : zg_M_aRun_84 X l0 l1 l2 l3 l5 M = if l3 ≤ l5 then zg_M_aRun_120 X M else zv_ob M 12 l0 (zv_ob M 12 l0 (zv_ci (zg_M_comes_0 X l0 (l2 + (l5 * (M.2.1 l0 16))) 1 M) (fun v2 M1 => if v2 = 0 then zv_ob M1 12 l0 (zv_ci (zg_M_bad_0 X l0 3 l1 M1) (fun v4 M3 => zv_rb v4 M3)) else zg_M_aRun_114 X l0 l1 l2 l3 l5 M1))) := (zR_step X _).trans rfl
set_option maxRecDepth 50000 in
theorem zg_M_aRun_114_e (X : zv_X) (l0 : Nat) (l1 l2 l3 l5 : Int32) (M : zv_M) : zg_M_aRun_114 X l0 l1 l2 l3 l5 M = zg_M_aRun_84 X l0 l1 l2 l3 (l5 + 1) M := (zR_step X _).trans rfl
set_option maxRecDepth 50000 in
theorem zg_M_aRun_120_e (X : zv_X) (M : zv_M) : zg_M_aRun_120 X M = zv_rb 1 M := (zR_step X _).trans rfl
set_option maxRecDepth 50000 in
theorem zg_M_statement_0_e (X : zv_X) (l0 : Nat) (l1 : Int32) (M : zv_M) : zg_M_statement_0 X l0 l1 M = zv_ob M 12 l0 (zv_ob M 12 l0 (zv_ci (zg_M_isIn_0 X (M.2.1 l0 9) 4 9 M) (fun v2 M1 => if v2 = 0 then zv_ob M1 12 l0 (zv_ob M1 12 l0 (zv_ci (zg_M_bad_0 X l0 1 (M1.2.1 l0 10) M1) (fun v4 M3 => zv_rb v4 M3))) else zg_M_statement_30 X l0 l1 (M.2.1 l0 10) (M.2.1 l0 9) M1))) := (zR_step X _).trans rfl
set_option maxRecDepth 50000 in
theorem zg_M_statement_30_e (X : zv_X) (l0 : Nat) (l1 l2 l3 : Int32) (M : zv_M) : zg_M_statement_30 X l0 l1 l2 l3 M = if l1 = 60 then zv_ob M 12 l0 (zv_ob M 12 l0 (zv_ci (zg_M_bad_0 X l0 3 (M.2.1 l0 10) M) (fun v2 M1 => zv_rb v2 M1))) else zg_M_statement_46 X l0 l2 l3 M := (zR_step X _).trans rfl
set_option maxRecDepth 50000 in
theorem zg_M_statement_46_e (X : zv_X) (l0 : Nat) (l2 l3 : Int32) (M : zv_M) : zg_M_statement_46 X l0 l2 l3 M = zv_ob M 12 l0 (zv_cv (zg_M_next0_0 X l0 M) (fun M1 => if l3 = 4 then zg_M_statement_60 X l0 l2 l3 M1 else if l3 = 5 then zg_M_statement_60 X l0 l2 l3 M1 else zg_M_statement_83 X l0 l3 M1)) := (zR_step X _).trans rfl
set_option maxRecDepth 50000 in
theorem zg_M_statement_60_e (X : zv_X) (l0 : Nat) (l2 l3 : Int32) (M : zv_M) : zg_M_statement_60 X l0 l2 l3 M = if l3 = 4 then zv_ob M 12 l0 (zv_ci (zg_M_aKey_0 X l0 l2 M) (fun v2 M1 => zg_M_statement_78 X l0 v2 M1)) else zg_M_statement_73 X l0 l2 M := (zR_step X _).trans rfl
set_option maxRecDepth 50000 in
theorem zg_M_statement_73_e (X : zv_X) (l0 : Nat) (l2 : Int32) (M : zv_M) : zg_M_statement_73 X l0 l2 M = zv_ob M 12 l0 (zv_ci (zg_M_aRun_0 X l0 l2 M) (fun v2 M1 => zg_M_statement_78 X l0 v2 M1)) := (zR_step X _).trans rfl
set_option maxRecDepth 50000 in
theorem zg_M_statement_78_e (X : zv_X) (l0 : Nat) (s0 : Int32) (M : zv_M) : zg_M_statement_78 X l0 s0 M = zg_M_statement_156 X l0 s0 M := (zR_step X _).trans rfl
set_option maxRecDepth 50000 in
theorem zg_M_statement_83_e (X : zv_X) (l0 : Nat) (l3 : Int32) (M : zv_M) : zg_M_statement_83 X l0 l3 M = if l3 = 6 then zv_ob M 12 l0 (zv_ci (zg_M_number_0 X l0 (-999999999) 999999999 M) (fun v2 M1 => if v2 = 0 then zg_M_statement_156 X l0 v2 M1 else zv_ob M1 12 l0 (zv_ob M1 12 l0 (zv_cv (zg_M_counts_0 X l0 (M1.2.1 l0 16) 0 M1) (fun M3 => zg_M_statement_156 X l0 v2 M3))))) else zg_M_statement_116 X l0 l3 M := (zR_step X _).trans rfl
set_option maxRecDepth 50000 in
theorem zg_M_statement_116_e (X : zv_X) (l0 : Nat) (l3 : Int32) (M : zv_M) : zg_M_statement_116 X l0 l3 M = if l3 = 9 then zg_M_statement_131 X l0 l3 50 0 l0 M else zg_M_statement_129 X l0 l3 0 l0 M := (zR_step X _).trans rfl
set_option maxRecDepth 50000 in
theorem zg_M_statement_129_e (X : zv_X) (l0 : Nat) (l3 s0 : Int32) (s1 : Nat) (M : zv_M) : zg_M_statement_129 X l0 l3 s0 s1 M = zg_M_statement_131 X l0 l3 20 s0 s1 M := (zR_step X _).trans rfl
set_option maxRecDepth 50000 in
theorem zg_M_statement_131_e (X : zv_X) (l0 : Nat) (l3 s0 s1 : Int32) (s2 : Nat) (M : zv_M) : zg_M_statement_131 X l0 l3 s0 s1 s2 M = zv_ob M 12 s2 (zv_ci (zg_M_number_0 X s2 s1 s0 M) (fun v2 M1 => if v2 = 0 then zg_M_statement_156 X l0 v2 M1 else zv_ob M1 12 l0 (zv_rf (M1.2.2.2 l0 0) (fun p3 => zv_ob M1 12 l0 (zv_ix M1 0 p3 ((0 + l3) - 7) (fun j4 => zg_M_statement_156 X l0 v2 (zv_wI M1 p3 j4 (M1.2.1 l0 16)))))))) := (zR_step X _).trans rfl
set_option maxRecDepth 50000 in
theorem zg_M_statement_156_e (X : zv_X) (l0 : Nat) (l4 : Int32) (M : zv_M) : zg_M_statement_156 X l0 l4 M = if l4 = 0 then zv_rb 0 M else zg_M_statement_163 X l0 M := (zR_step X _).trans rfl
set_option maxRecDepth 50000 in
theorem zg_M_statement_163_e (X : zv_X) (l0 : Nat) (M : zv_M) : zg_M_statement_163 X l0 M = zv_ob M 12 l0 (if (M.2.1 l0 9) = 3 then zg_M_statement_181 X l0 M else zv_ob M 12 l0 (zv_ob M 12 l0 (zv_ci (zg_M_bad_0 X l0 1 (M.2.1 l0 10) M) (fun v2 M1 => zv_rb v2 M1)))) := (zR_step X _).trans rfl
set_option maxRecDepth 50000 in
theorem zg_M_statement_181_e (X : zv_X) (l0 : Nat) (M : zv_M) : zg_M_statement_181 X l0 M = zv_ob M 12 l0 (zv_cv (zg_M_next0_0 X l0 M) (fun M1 => zv_rb 1 M1)) := (zR_step X _).trans rfl
set_option maxRecDepth 50000 in
theorem zg_M_text_0_e (X : zv_X) (l0 : Nat) (M : zv_M) : zg_M_text_0 X l0 M = zv_ob M 12 l0 (zv_ob (zv_wI M l0 12 0) 12 l0 (zg_M_text_12 X l0 0 (zv_wI (zv_wI M l0 12 0) l0 8 0))) := (zR_step X _).trans rfl
set_option maxRecDepth 50000 in
theorem zg_M_text_12_e (X : zv_X) (l0 : Nat) (l1 : Int32) (M : zv_M) : zg_M_text_12 X l0 l1 M = if 1668 ≤ l1 then zg_M_text_37 X l0 M else zv_ob M 12 l0 (zv_rf (M.2.2.2 l0 2) (fun p1 => zv_ob M 12 l0 (zv_rf (M.2.2.2 l0 0) (fun p2 => zv_ix M 0 p2 l1 (fun j3 => zv_ix M 0 p1 l1 (fun j4 => zg_M_text_12 X l0 (l1 + 1) (zv_wI M p1 j4 (M.2.1 p2 j3)))))))) := (zR_step X _).trans rfl
set_option maxRecDepth 50000 in
theorem zg_M_text_37_e (X : zv_X) (l0 : Nat) (M : zv_M) : zg_M_text_37 X l0 M = zv_ob M 12 l0 (zv_cv (zg_M_next0_0 X l0 M) (fun M1 => zg_M_text_45 X l0 1 0 M1)) := (zR_step X _).trans rfl
set_option maxRecDepth 50000 in
theorem zg_M_text_45_e (X : zv_X) (l0 : Nat) (l1 l2 : Int32) (M : zv_M) : zg_M_text_45 X l0 l1 l2 M = if l1 = 0 then zg_M_text_68 X l0 l1 M else zv_ob M 12 l0 (if (M.2.1 l0 9) = 0 then zg_M_text_68 X l0 l1 M else zv_ob M 12 l0 (zv_ci (zg_M_statement_0 X l0 l2 M) (fun v2 M1 => zg_M_text_45 X l0 v2 (l2 + 1) M1))) := (zR_step X _).trans rfl
set_option maxRecDepth 50000 in
theorem zg_M_text_68_e (X : zv_X) (l0 : Nat) (l1 : Int32) (M : zv_M) : zg_M_text_68 X l0 l1 M = zv_ob M 12 l0 (zv_ob (zv_wI M l0 7 0) 12 l0 (zv_ob (zv_wI M l0 7 0) 12 l0 (if l1 = 0 then zg_M_text_90 X l0 l1 l0 (zv_wI (zv_wI M l0 7 0) l0 14 ((zv_wI M l0 7 0).2.1 l0 12)) else zg_M_text_94 X l0 l1 (-1) l0 (zv_wI (zv_wI M l0 7 0) l0 14 ((zv_wI M l0 7 0).2.1 l0 12))))) := (zR_step X _).trans rfl
set_option maxRecDepth 50000 in
theorem zg_M_text_90_e (X : zv_X) (l0 : Nat) (l1 : Int32) (s0 : Nat) (M : zv_M) : zg_M_text_90 X l0 l1 s0 M = zv_ob M 12 l0 (zg_M_text_94 X l0 l1 (M.2.1 l0 13) s0 M) := (zR_step X _).trans rfl
set_option maxRecDepth 50000 in
theorem zg_M_text_94_e (X : zv_X) (l0 : Nat) (l1 s0 : Int32) (s1 : Nat) (M : zv_M) : zg_M_text_94 X l0 l1 s0 s1 M = zv_ob M 12 s1 (if l1 = 0 then zg_M_text_106 X l0 (zv_wI M s1 15 s0) else zv_ob (zv_wI M s1 15 s0) 12 l0 (zv_ci (zg_M_build_0 X l0 (zv_wI M s1 15 s0)) (fun v2 M1 => some (some (.int v2), M1)))) := (zR_step X _).trans rfl
set_option maxRecDepth 50000 in
theorem zg_M_text_106_e (X : zv_X) (l0 : Nat) (M : zv_M) : zg_M_text_106 X l0 M = zg_M_text_108 X l0 0 M := (zR_step X _).trans rfl
set_option maxRecDepth 50000 in
theorem zg_M_text_108_e (X : zv_X) (l0 : Nat) (l3 : Int32) (M : zv_M) : zg_M_text_108 X l0 l3 M = if 1668 ≤ l3 then zg_M_text_133 X M else zv_ob M 12 l0 (zv_rf (M.2.2.2 l0 0) (fun p1 => zv_ob M 12 l0 (zv_rf (M.2.2.2 l0 2) (fun p2 => zv_ix M 0 p2 l3 (fun j3 => zv_ix M 0 p1 l3 (fun j4 => zg_M_text_108 X l0 (l3 + 1) (zv_wI M p1 j4 (M.2.1 p2 j3)))))))) := (zR_step X _).trans rfl
set_option maxRecDepth 50000 in
theorem zg_M_text_133_e (X : zv_X) (M : zv_M) : zg_M_text_133 X M = some (some (.int (-1)), M) := (zR_step X _).trans rfl
set_option maxRecDepth 50000 in
theorem zg_M_fault_0_e (X : zv_X) (l0 : Nat) (l1 : Int32) (M : zv_M) : zg_M_fault_0 X l0 l1 M = if l1 = 0 then zv_ob M 12 l0 (zg_M_fault_24 X (M.2.1 l0 14) M) else zg_M_fault_11 X l0 l1 M := (zR_step X _).trans rfl
set_option maxRecDepth 50000 in
theorem zg_M_fault_11_e (X : zv_X) (l0 : Nat) (l1 : Int32) (M : zv_M) : zg_M_fault_11 X l0 l1 M = if l1 = 1 then zv_ob M 12 l0 (zg_M_fault_24 X (M.2.1 l0 15) M) else zg_M_fault_23 X M := (zR_step X _).trans rfl
set_option maxRecDepth 50000 in
theorem zg_M_fault_23_e (X : zv_X) (M : zv_M) : zg_M_fault_23 X M = zg_M_fault_24 X (-1) M := (zR_step X _).trans rfl
set_option maxRecDepth 50000 in
theorem zg_M_fault_24_e (X : zv_X) (s0 : Int32) (M : zv_M) : zg_M_fault_24 X s0 M = some (some (.int s0), M) := (zR_step X _).trans rfl
set_option maxRecDepth 50000 in
theorem zg_M_common_0_e (X : zv_X) (l0 l2 : Int64) (M : zv_M) : zg_M_common_0 X l0 l2 M = zg_M_common_6 X l0 l2 M := (zR_step X _).trans rfl
set_option maxRecDepth 50000 in
theorem zg_M_common_6_e (X : zv_X) (l4 l6 : Int64) (M : zv_M) : zg_M_common_6 X l4 l6 M = if (lg_cmp l6 0) = 0 then zg_M_common_31 X l4 M else if l6 = 0 then none else zg_M_common_6 X l6 (l4 - l4 / l6 * l6) M := (zR_step X _).trans rfl
set_option maxRecDepth 50000 in
theorem zg_M_common_31_e (X : zv_X) (l4 : Int64) (M : zv_M) : zg_M_common_31 X l4 M = if 0 ≤ (lg_cmp l4 0) then zg_M_common_44 X l4 M else zg_M_common_46 X (-l4) M := (zR_step X _).trans rfl
set_option maxRecDepth 50000 in
theorem zg_M_common_44_e (X : zv_X) (l4 : Int64) (M : zv_M) : zg_M_common_44 X l4 M = zg_M_common_46 X l4 M := (zR_step X _).trans rfl
