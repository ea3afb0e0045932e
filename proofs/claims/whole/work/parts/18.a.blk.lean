/-! every block of every method is checked by the kernel -/
theorem zb_0_0 : ((zv_b0.drop 0).take 1).all (zchkb 0) = true := by decide +kernel
theorem zb_0 : zv_b0.all (zchkb 0) = true := by
  have e : zv_b0 = (zv_b0.drop 0).take 1 := rfl
  rw [e]
  simp only [List.all_append, zb_0_0, Bool.and_self]
theorem zb_1_0 : ((zv_b1.drop 0).take 1).all (zchkb 1) = true := by decide +kernel
theorem zb_1 : zv_b1.all (zchkb 1) = true := by
  have e : zv_b1 = (zv_b1.drop 0).take 1 := rfl
  rw [e]
  simp only [List.all_append, zb_1_0, Bool.and_self]
theorem zb_2_0 : ((zv_b2.drop 0).take 1).all (zchkb 2) = true := by decide +kernel
theorem zb_2 : zv_b2.all (zchkb 2) = true := by
  have e : zv_b2 = (zv_b2.drop 0).take 1 := rfl
  rw [e]
  simp only [List.all_append, zb_2_0, Bool.and_self]
theorem zb_3_0 : ((zv_b3.drop 0).take 1).all (zchkb 3) = true := by decide +kernel
theorem zb_3_1 : ((zv_b3.drop 1).take 1).all (zchkb 3) = true := by decide +kernel
theorem zb_3 : zv_b3.all (zchkb 3) = true := by
  have e : zv_b3 = (zv_b3.drop 0).take 1 ++ ((zv_b3.drop 1).take 1) := rfl
  rw [e]
  simp only [List.all_append, zb_3_0, zb_3_1, Bool.and_self]
theorem zb_4_0 : ((zv_b4.drop 0).take 3).all (zchkb 4) = true := by decide +kernel
theorem zb_4_3 : ((zv_b4.drop 3).take 1).all (zchkb 4) = true := by decide +kernel
theorem zb_4 : zv_b4.all (zchkb 4) = true := by
  have e : zv_b4 = (zv_b4.drop 0).take 3 ++ ((zv_b4.drop 3).take 1) := rfl
  rw [e]
  simp only [List.all_append, zb_4_0, zb_4_3, Bool.and_self]
theorem zb_5_0 : ((zv_b5.drop 0).take 3).all (zchkb 5) = true := by decide +kernel
theorem zb_5 : zv_b5.all (zchkb 5) = true := by
  have e : zv_b5 = (zv_b5.drop 0).take 3 := rfl
  rw [e]
  simp only [List.all_append, zb_5_0, Bool.and_self]
theorem zb_6_0 : ((zv_b6.drop 0).take 3).all (zchkb 6) = true := by decide +kernel
theorem zb_6_3 : ((zv_b6.drop 3).take 1).all (zchkb 6) = true := by decide +kernel
theorem zb_6_4 : ((zv_b6.drop 4).take 1).all (zchkb 6) = true := by decide +kernel
theorem zb_6 : zv_b6.all (zchkb 6) = true := by
  have e : zv_b6 = (zv_b6.drop 0).take 3 ++ ((zv_b6.drop 3).take 1 ++ ((zv_b6.drop 4).take 1)) := rfl
  rw [e]
  simp only [List.all_append, zb_6_0, zb_6_3, zb_6_4, Bool.and_self]
theorem zb_7_0 : ((zv_b7.drop 0).take 1).all (zchkb 7) = true := by decide +kernel
theorem zb_7_1 : ((zv_b7.drop 1).take 1).all (zchkb 7) = true := by decide +kernel
theorem zb_7_2 : ((zv_b7.drop 2).take 2).all (zchkb 7) = true := by decide +kernel
theorem zb_7 : zv_b7.all (zchkb 7) = true := by
  have e : zv_b7 = (zv_b7.drop 0).take 1 ++ ((zv_b7.drop 1).take 1 ++ ((zv_b7.drop 2).take 2)) := rfl
  rw [e]
  simp only [List.all_append, zb_7_0, zb_7_1, zb_7_2, Bool.and_self]
theorem zb_8_0 : ((zv_b8.drop 0).take 1).all (zchkb 8) = true := by decide +kernel
theorem zb_8 : zv_b8.all (zchkb 8) = true := by
  have e : zv_b8 = (zv_b8.drop 0).take 1 := rfl
  rw [e]
  simp only [List.all_append, zb_8_0, Bool.and_self]
theorem zb_9_0 : ((zv_b9.drop 0).take 2).all (zchkb 9) = true := by decide +kernel
theorem zb_9_2 : ((zv_b9.drop 2).take 3).all (zchkb 9) = true := by decide +kernel
theorem zb_9 : zv_b9.all (zchkb 9) = true := by
  have e : zv_b9 = (zv_b9.drop 0).take 2 ++ ((zv_b9.drop 2).take 3) := rfl
  rw [e]
  simp only [List.all_append, zb_9_0, zb_9_2, Bool.and_self]
theorem zb_10_0 : ((zv_b10.drop 0).take 3).all (zchkb 10) = true := by decide +kernel
theorem zb_10 : zv_b10.all (zchkb 10) = true := by
  have e : zv_b10 = (zv_b10.drop 0).take 3 := rfl
  rw [e]
  simp only [List.all_append, zb_10_0, Bool.and_self]
theorem zb_11_0 : ((zv_b11.drop 0).take 3).all (zchkb 11) = true := by decide +kernel
theorem zb_11 : zv_b11.all (zchkb 11) = true := by
  have e : zv_b11 = (zv_b11.drop 0).take 3 := rfl
  rw [e]
  simp only [List.all_append, zb_11_0, Bool.and_self]
theorem zb_12_0 : ((zv_b12.drop 0).take 2).all (zchkb 12) = true := by decide +kernel
theorem zb_12_2 : ((zv_b12.drop 2).take 1).all (zchkb 12) = true := by decide +kernel
theorem zb_12_3 : ((zv_b12.drop 3).take 2).all (zchkb 12) = true := by decide +kernel
theorem zb_12 : zv_b12.all (zchkb 12) = true := by
  have e : zv_b12 = (zv_b12.drop 0).take 2 ++ ((zv_b12.drop 2).take 1 ++ ((zv_b12.drop 3).take 2)) := rfl
  rw [e]
  simp only [List.all_append, zb_12_0, zb_12_2, zb_12_3, Bool.and_self]
theorem zb_13_0 : ((zv_b13.drop 0).take 1).all (zchkb 13) = true := by decide +kernel
theorem zb_13 : zv_b13.all (zchkb 13) = true := by
  have e : zv_b13 = (zv_b13.drop 0).take 1 := rfl
  rw [e]
  simp only [List.all_append, zb_13_0, Bool.and_self]
theorem zb_14_0 : ((zv_b14.drop 0).take 1).all (zchkb 14) = true := by decide +kernel
theorem zb_14_1 : ((zv_b14.drop 1).take 1).all (zchkb 14) = true := by decide +kernel
theorem zb_14_2 : ((zv_b14.drop 2).take 2).all (zchkb 14) = true := by decide +kernel
theorem zb_14 : zv_b14.all (zchkb 14) = true := by
  have e : zv_b14 = (zv_b14.drop 0).take 1 ++ ((zv_b14.drop 1).take 1 ++ ((zv_b14.drop 2).take 2)) := rfl
  rw [e]
  simp only [List.all_append, zb_14_0, zb_14_1, zb_14_2, Bool.and_self]
theorem zb_15_0 : ((zv_b15.drop 0).take 1).all (zchkb 15) = true := by decide +kernel
theorem zb_15 : zv_b15.all (zchkb 15) = true := by
  have e : zv_b15 = (zv_b15.drop 0).take 1 := rfl
  rw [e]
  simp only [List.all_append, zb_15_0, Bool.and_self]
theorem zb_16_0 : ((zv_b16.drop 0).take 3).all (zchkb 16) = true := by decide +kernel
theorem zb_16 : zv_b16.all (zchkb 16) = true := by
  have e : zv_b16 = (zv_b16.drop 0).take 3 := rfl
  rw [e]
  simp only [List.all_append, zb_16_0, Bool.and_self]
theorem zb_17_0 : ((zv_b17.drop 0).take 3).all (zchkb 17) = true := by decide +kernel
theorem zb_17_3 : ((zv_b17.drop 3).take 4).all (zchkb 17) = true := by decide +kernel
theorem zb_17 : zv_b17.all (zchkb 17) = true := by
  have e : zv_b17 = (zv_b17.drop 0).take 3 ++ ((zv_b17.drop 3).take 4) := rfl
  rw [e]
  simp only [List.all_append, zb_17_0, zb_17_3, Bool.and_self]
theorem zb_18_0 : ((zv_b18.drop 0).take 6).all (zchkb 18) = true := by decide +kernel
theorem zb_18_6 : ((zv_b18.drop 6).take 3).all (zchkb 18) = true := by decide +kernel
theorem zb_18_9 : ((zv_b18.drop 9).take 1).all (zchkb 18) = true := by decide +kernel
theorem zb_18_10 : ((zv_b18.drop 10).take 2).all (zchkb 18) = true := by decide +kernel
theorem zb_18 : zv_b18.all (zchkb 18) = true := by
  have e : zv_b18 = (zv_b18.drop 0).take 6 ++ ((zv_b18.drop 6).take 3 ++ ((zv_b18.drop 9).take 1 ++ ((zv_b18.drop 10).take 2))) := rfl
  rw [e]
  simp only [List.all_append, zb_18_0, zb_18_6, zb_18_9, zb_18_10, Bool.and_self]
theorem zb_19_0 : ((zv_b19.drop 0).take 1).all (zchkb 19) = true := by decide +kernel
theorem zb_19 : zv_b19.all (zchkb 19) = true := by
  have e : zv_b19 = (zv_b19.drop 0).take 1 := rfl
  rw [e]
  simp only [List.all_append, zb_19_0, Bool.and_self]
theorem zb_20_0 : ((zv_b20.drop 0).take 1).all (zchkb 20) = true := by decide +kernel
theorem zb_20 : zv_b20.all (zchkb 20) = true := by
  have e : zv_b20 = (zv_b20.drop 0).take 1 := rfl
  rw [e]
  simp only [List.all_append, zb_20_0, Bool.and_self]
theorem zb_21_0 : ((zv_b21.drop 0).take 1).all (zchkb 21) = true := by decide +kernel
theorem zb_21 : zv_b21.all (zchkb 21) = true := by
  have e : zv_b21 = (zv_b21.drop 0).take 1 := rfl
  rw [e]
  simp only [List.all_append, zb_21_0, Bool.and_self]
theorem zb_22_0 : ((zv_b22.drop 0).take 3).all (zchkb 22) = true := by decide +kernel
theorem zb_22 : zv_b22.all (zchkb 22) = true := by
  have e : zv_b22 = (zv_b22.drop 0).take 3 := rfl
  rw [e]
  simp only [List.all_append, zb_22_0, Bool.and_self]
theorem zb_23_0 : ((zv_b23.drop 0).take 3).all (zchkb 23) = true := by decide +kernel
theorem zb_23 : zv_b23.all (zchkb 23) = true := by
  have e : zv_b23 = (zv_b23.drop 0).take 3 := rfl
  rw [e]
  simp only [List.all_append, zb_23_0, Bool.and_self]
theorem zb_24_0 : ((zv_b24.drop 0).take 4).all (zchkb 24) = true := by decide +kernel
theorem zb_24 : zv_b24.all (zchkb 24) = true := by
  have e : zv_b24 = (zv_b24.drop 0).take 4 := rfl
  rw [e]
  simp only [List.all_append, zb_24_0, Bool.and_self]
theorem zb_25_0 : ((zv_b25.drop 0).take 2).all (zchkb 25) = true := by decide +kernel
theorem zb_25_2 : ((zv_b25.drop 2).take 2).all (zchkb 25) = true := by decide +kernel
theorem zb_25 : zv_b25.all (zchkb 25) = true := by
  have e : zv_b25 = (zv_b25.drop 0).take 2 ++ ((zv_b25.drop 2).take 2) := rfl
  rw [e]
  simp only [List.all_append, zb_25_0, zb_25_2, Bool.and_self]
theorem zb_26_0 : ((zv_b26.drop 0).take 1).all (zchkb 26) = true := by decide +kernel
theorem zb_26_1 : ((zv_b26.drop 1).take 1).all (zchkb 26) = true := by decide +kernel
theorem zb_26 : zv_b26.all (zchkb 26) = true := by
  have e : zv_b26 = (zv_b26.drop 0).take 1 ++ ((zv_b26.drop 1).take 1) := rfl
  rw [e]
  simp only [List.all_append, zb_26_0, zb_26_1, Bool.and_self]
theorem zb_27_0 : ((zv_b27.drop 0).take 1).all (zchkb 27) = true := by decide +kernel
theorem zb_27 : zv_b27.all (zchkb 27) = true := by
  have e : zv_b27 = (zv_b27.drop 0).take 1 := rfl
  rw [e]
  simp only [List.all_append, zb_27_0, Bool.and_self]
theorem zb_28_0 : ((zv_b28.drop 0).take 1).all (zchkb 28) = true := by decide +kernel
theorem zb_28 : zv_b28.all (zchkb 28) = true := by
  have e : zv_b28 = (zv_b28.drop 0).take 1 := rfl
  rw [e]
  simp only [List.all_append, zb_28_0, Bool.and_self]
theorem zb_29_0 : ((zv_b29.drop 0).take 1).all (zchkb 29) = true := by decide +kernel
theorem zb_29 : zv_b29.all (zchkb 29) = true := by
  have e : zv_b29 = (zv_b29.drop 0).take 1 := rfl
  rw [e]
  simp only [List.all_append, zb_29_0, Bool.and_self]
theorem zb_30_0 : ((zv_b30.drop 0).take 3).all (zchkb 30) = true := by decide +kernel
theorem zb_30 : zv_b30.all (zchkb 30) = true := by
  have e : zv_b30 = (zv_b30.drop 0).take 3 := rfl
  rw [e]
  simp only [List.all_append, zb_30_0, Bool.and_self]
theorem zb_31_0 : ((zv_b31.drop 0).take 1).all (zchkb 31) = true := by decide +kernel
theorem zb_31_1 : ((zv_b31.drop 1).take 1).all (zchkb 31) = true := by decide +kernel
theorem zb_31_2 : ((zv_b31.drop 2).take 1).all (zchkb 31) = true := by decide +kernel
theorem zb_31 : zv_b31.all (zchkb 31) = true := by
  have e : zv_b31 = (zv_b31.drop 0).take 1 ++ ((zv_b31.drop 1).take 1 ++ ((zv_b31.drop 2).take 1)) := rfl
  rw [e]
  simp only [List.all_append, zb_31_0, zb_31_1, zb_31_2, Bool.and_self]
theorem zb_32_0 : ((zv_b32.drop 0).take 1).all (zchkb 32) = true := by decide +kernel
theorem zb_32_1 : ((zv_b32.drop 1).take 3).all (zchkb 32) = true := by decide +kernel
theorem zb_32_4 : ((zv_b32.drop 4).take 1).all (zchkb 32) = true := by decide +kernel
theorem zb_32 : zv_b32.all (zchkb 32) = true := by
  have e : zv_b32 = (zv_b32.drop 0).take 1 ++ ((zv_b32.drop 1).take 3 ++ ((zv_b32.drop 4).take 1)) := rfl
  rw [e]
  simp only [List.all_append, zb_32_0, zb_32_1, zb_32_4, Bool.and_self]
theorem zb_33_0 : ((zv_b33.drop 0).take 3).all (zchkb 33) = true := by decide +kernel
theorem zb_33 : zv_b33.all (zchkb 33) = true := by
  have e : zv_b33 = (zv_b33.drop 0).take 3 := rfl
  rw [e]
  simp only [List.all_append, zb_33_0, Bool.and_self]
theorem zb_34_0 : ((zv_b34.drop 0).take 3).all (zchkb 34) = true := by decide +kernel
theorem zb_34 : zv_b34.all (zchkb 34) = true := by
  have e : zv_b34 = (zv_b34.drop 0).take 3 := rfl
  rw [e]
  simp only [List.all_append, zb_34_0, Bool.and_self]
theorem zb_35_0 : ((zv_b35.drop 0).take 1).all (zchkb 35) = true := by decide +kernel
theorem zb_35 : zv_b35.all (zchkb 35) = true := by
  have e : zv_b35 = (zv_b35.drop 0).take 1 := rfl
  rw [e]
  simp only [List.all_append, zb_35_0, Bool.and_self]
theorem zb_36_0 : ((zv_b36.drop 0).take 1).all (zchkb 36) = true := by decide +kernel
theorem zb_36 : zv_b36.all (zchkb 36) = true := by
  have e : zv_b36 = (zv_b36.drop 0).take 1 := rfl
  rw [e]
  simp only [List.all_append, zb_36_0, Bool.and_self]
theorem zb_37_0 : ((zv_b37.drop 0).take 1).all (zchkb 37) = true := by decide +kernel
theorem zb_37 : zv_b37.all (zchkb 37) = true := by
  have e : zv_b37 = (zv_b37.drop 0).take 1 := rfl
  rw [e]
  simp only [List.all_append, zb_37_0, Bool.and_self]
theorem zb_38_0 : ((zv_b38.drop 0).take 1).all (zchkb 38) = true := by decide +kernel
theorem zb_38 : zv_b38.all (zchkb 38) = true := by
  have e : zv_b38 = (zv_b38.drop 0).take 1 := rfl
  rw [e]
  simp only [List.all_append, zb_38_0, Bool.and_self]
theorem zb_39_0 : ((zv_b39.drop 0).take 3).all (zchkb 39) = true := by decide +kernel
theorem zb_39 : zv_b39.all (zchkb 39) = true := by
  have e : zv_b39 = (zv_b39.drop 0).take 3 := rfl
  rw [e]
  simp only [List.all_append, zb_39_0, Bool.and_self]
theorem zb_40_0 : ((zv_b40.drop 0).take 4).all (zchkb 40) = true := by decide +kernel
theorem zb_40_4 : ((zv_b40.drop 4).take 1).all (zchkb 40) = true := by decide +kernel
theorem zb_40 : zv_b40.all (zchkb 40) = true := by
  have e : zv_b40 = (zv_b40.drop 0).take 4 ++ ((zv_b40.drop 4).take 1) := rfl
  rw [e]
  simp only [List.all_append, zb_40_0, zb_40_4, Bool.and_self]
theorem zb_41_0 : ((zv_b41.drop 0).take 1).all (zchkb 41) = true := by decide +kernel
theorem zb_41_1 : ((zv_b41.drop 1).take 3).all (zchkb 41) = true := by decide +kernel
theorem zb_41 : zv_b41.all (zchkb 41) = true := by
  have e : zv_b41 = (zv_b41.drop 0).take 1 ++ ((zv_b41.drop 1).take 3) := rfl
  rw [e]
  simp only [List.all_append, zb_41_0, zb_41_1, Bool.and_self]
theorem zb_42_0 : ((zv_b42.drop 0).take 1).all (zchkb 42) = true := by decide +kernel
theorem zb_42_1 : ((zv_b42.drop 1).take 1).all (zchkb 42) = true := by decide +kernel
theorem zb_42_2 : ((zv_b42.drop 2).take 4).all (zchkb 42) = true := by decide +kernel
theorem zb_42 : zv_b42.all (zchkb 42) = true := by
  have e : zv_b42 = (zv_b42.drop 0).take 1 ++ ((zv_b42.drop 1).take 1 ++ ((zv_b42.drop 2).take 4)) := rfl
  rw [e]
  simp only [List.all_append, zb_42_0, zb_42_1, zb_42_2, Bool.and_self]
theorem zb_43_0 : ((zv_b43.drop 0).take 3).all (zchkb 43) = true := by decide +kernel
theorem zb_43 : zv_b43.all (zchkb 43) = true := by
  have e : zv_b43 = (zv_b43.drop 0).take 3 := rfl
  rw [e]
  simp only [List.all_append, zb_43_0, Bool.and_self]
theorem zb_44_0 : ((zv_b44.drop 0).take 5).all (zchkb 44) = true := by decide +kernel
theorem zb_44_5 : ((zv_b44.drop 5).take 2).all (zchkb 44) = true := by decide +kernel
theorem zb_44 : zv_b44.all (zchkb 44) = true := by
  have e : zv_b44 = (zv_b44.drop 0).take 5 ++ ((zv_b44.drop 5).take 2) := rfl
  rw [e]
  simp only [List.all_append, zb_44_0, zb_44_5, Bool.and_self]
theorem zb_45_0 : ((zv_b45.drop 0).take 1).all (zchkb 45) = true := by decide +kernel
theorem zb_45 : zv_b45.all (zchkb 45) = true := by
  have e : zv_b45 = (zv_b45.drop 0).take 1 := rfl
  rw [e]
  simp only [List.all_append, zb_45_0, Bool.and_self]
theorem zb_46_0 : ((zv_b46.drop 0).take 1).all (zchkb 46) = true := by decide +kernel
theorem zb_46 : zv_b46.all (zchkb 46) = true := by
  have e : zv_b46 = (zv_b46.drop 0).take 1 := rfl
  rw [e]
  simp only [List.all_append, zb_46_0, Bool.and_self]
theorem zb_47_0 : ((zv_b47.drop 0).take 1).all (zchkb 47) = true := by decide +kernel
theorem zb_47_1 : ((zv_b47.drop 1).take 1).all (zchkb 47) = true := by decide +kernel
theorem zb_47_2 : ((zv_b47.drop 2).take 2).all (zchkb 47) = true := by decide +kernel
theorem zb_47_4 : ((zv_b47.drop 4).take 2).all (zchkb 47) = true := by decide +kernel
theorem zb_47 : zv_b47.all (zchkb 47) = true := by
  have e : zv_b47 = (zv_b47.drop 0).take 1 ++ ((zv_b47.drop 1).take 1 ++ ((zv_b47.drop 2).take 2 ++ ((zv_b47.drop 4).take 2))) := rfl
  rw [e]
  simp only [List.all_append, zb_47_0, zb_47_1, zb_47_2, zb_47_4, Bool.and_self]
theorem zb_48_0 : ((zv_b48.drop 0).take 1).all (zchkb 48) = true := by decide +kernel
theorem zb_48_1 : ((zv_b48.drop 1).take 3).all (zchkb 48) = true := by decide +kernel
theorem zb_48 : zv_b48.all (zchkb 48) = true := by
  have e : zv_b48 = (zv_b48.drop 0).take 1 ++ ((zv_b48.drop 1).take 3) := rfl
  rw [e]
  simp only [List.all_append, zb_48_0, zb_48_1, Bool.and_self]
