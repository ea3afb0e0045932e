/-! every block of every method is checked by the kernel -/
theorem zb_49_0 : ((zv_b49.drop 0).take 1).all (zchkb 49) = true := by decide +kernel
theorem zb_49 : zv_b49.all (zchkb 49) = true := by
  have e : zv_b49 = (zv_b49.drop 0).take 1 := rfl
  rw [e]
  simp only [List.all_append, zb_49_0, Bool.and_self]
theorem zb_50_0 : ((zv_b50.drop 0).take 3).all (zchkb 50) = true := by decide +kernel
theorem zb_50_3 : ((zv_b50.drop 3).take 5).all (zchkb 50) = true := by decide +kernel
theorem zb_50 : zv_b50.all (zchkb 50) = true := by
  have e : zv_b50 = (zv_b50.drop 0).take 3 ++ ((zv_b50.drop 3).take 5) := rfl
  rw [e]
  simp only [List.all_append, zb_50_0, zb_50_3, Bool.and_self]
theorem zb_51_0 : ((zv_b51.drop 0).take 5).all (zchkb 51) = true := by decide +kernel
theorem zb_51_5 : ((zv_b51.drop 5).take 6).all (zchkb 51) = true := by decide +kernel
theorem zb_51 : zv_b51.all (zchkb 51) = true := by
  have e : zv_b51 = (zv_b51.drop 0).take 5 ++ ((zv_b51.drop 5).take 6) := rfl
  rw [e]
  simp only [List.all_append, zb_51_0, zb_51_5, Bool.and_self]
theorem zb_52_0 : ((zv_b52.drop 0).take 4).all (zchkb 52) = true := by decide +kernel
theorem zb_52 : zv_b52.all (zchkb 52) = true := by
  have e : zv_b52 = (zv_b52.drop 0).take 4 := rfl
  rw [e]
  simp only [List.all_append, zb_52_0, Bool.and_self]
theorem zb_53_0 : ((zv_b53.drop 0).take 3).all (zchkb 53) = true := by decide +kernel
theorem zb_53 : zv_b53.all (zchkb 53) = true := by
  have e : zv_b53 = (zv_b53.drop 0).take 3 := rfl
  rw [e]
  simp only [List.all_append, zb_53_0, Bool.and_self]
theorem zb_54_0 : ((zv_b54.drop 0).take 3).all (zchkb 54) = true := by decide +kernel
theorem zb_54 : zv_b54.all (zchkb 54) = true := by
  have e : zv_b54 = (zv_b54.drop 0).take 3 := rfl
  rw [e]
  simp only [List.all_append, zb_54_0, Bool.and_self]
theorem zb_55_0 : ((zv_b55.drop 0).take 1).all (zchkb 55) = true := by decide +kernel
theorem zb_55 : zv_b55.all (zchkb 55) = true := by
  have e : zv_b55 = (zv_b55.drop 0).take 1 := rfl
  rw [e]
  simp only [List.all_append, zb_55_0, Bool.and_self]
theorem zb_56_0 : ((zv_b56.drop 0).take 1).all (zchkb 56) = true := by decide +kernel
theorem zb_56 : zv_b56.all (zchkb 56) = true := by
  have e : zv_b56 = (zv_b56.drop 0).take 1 := rfl
  rw [e]
  simp only [List.all_append, zb_56_0, Bool.and_self]
theorem zb_57_0 : ((zv_b57.drop 0).take 1).all (zchkb 57) = true := by decide +kernel
theorem zb_57 : zv_b57.all (zchkb 57) = true := by
  have e : zv_b57 = (zv_b57.drop 0).take 1 := rfl
  rw [e]
  simp only [List.all_append, zb_57_0, Bool.and_self]
theorem zb_58_0 : ((zv_b58.drop 0).take 1).all (zchkb 58) = true := by decide +kernel
theorem zb_58 : zv_b58.all (zchkb 58) = true := by
  have e : zv_b58 = (zv_b58.drop 0).take 1 := rfl
  rw [e]
  simp only [List.all_append, zb_58_0, Bool.and_self]
theorem zb_59_0 : ((zv_b59.drop 0).take 3).all (zchkb 59) = true := by decide +kernel
theorem zb_59 : zv_b59.all (zchkb 59) = true := by
  have e : zv_b59 = (zv_b59.drop 0).take 3 := rfl
  rw [e]
  simp only [List.all_append, zb_59_0, Bool.and_self]
theorem zb_60_0 : ((zv_b60.drop 0).take 3).all (zchkb 60) = true := by decide +kernel
theorem zb_60_3 : ((zv_b60.drop 3).take 3).all (zchkb 60) = true := by decide +kernel
theorem zb_60 : zv_b60.all (zchkb 60) = true := by
  have e : zv_b60 = (zv_b60.drop 0).take 3 ++ ((zv_b60.drop 3).take 3) := rfl
  rw [e]
  simp only [List.all_append, zb_60_0, zb_60_3, Bool.and_self]
theorem zb_61_0 : ((zv_b61.drop 0).take 1).all (zchkb 61) = true := by decide +kernel
theorem zb_61 : zv_b61.all (zchkb 61) = true := by
  have e : zv_b61 = (zv_b61.drop 0).take 1 := rfl
  rw [e]
  simp only [List.all_append, zb_61_0, Bool.and_self]
theorem zb_62_0 : ((zv_b62.drop 0).take 1).all (zchkb 62) = true := by decide +kernel
theorem zb_62 : zv_b62.all (zchkb 62) = true := by
  have e : zv_b62 = (zv_b62.drop 0).take 1 := rfl
  rw [e]
  simp only [List.all_append, zb_62_0, Bool.and_self]
theorem zb_63_0 : ((zv_b63.drop 0).take 3).all (zchkb 63) = true := by decide +kernel
theorem zb_63 : zv_b63.all (zchkb 63) = true := by
  have e : zv_b63 = (zv_b63.drop 0).take 3 := rfl
  rw [e]
  simp only [List.all_append, zb_63_0, Bool.and_self]
theorem zb_64_0 : ((zv_b64.drop 0).take 1).all (zchkb 64) = true := by decide +kernel
theorem zb_64_1 : ((zv_b64.drop 1).take 1).all (zchkb 64) = true := by decide +kernel
theorem zb_64_2 : ((zv_b64.drop 2).take 3).all (zchkb 64) = true := by decide +kernel
theorem zb_64 : zv_b64.all (zchkb 64) = true := by
  have e : zv_b64 = (zv_b64.drop 0).take 1 ++ ((zv_b64.drop 1).take 1 ++ ((zv_b64.drop 2).take 3)) := rfl
  rw [e]
  simp only [List.all_append, zb_64_0, zb_64_1, zb_64_2, Bool.and_self]
theorem zb_65_0 : ((zv_b65.drop 0).take 1).all (zchkb 65) = true := by decide +kernel
theorem zb_65 : zv_b65.all (zchkb 65) = true := by
  have e : zv_b65 = (zv_b65.drop 0).take 1 := rfl
  rw [e]
  simp only [List.all_append, zb_65_0, Bool.and_self]
theorem zb_66_0 : ((zv_b66.drop 0).take 2).all (zchkb 66) = true := by decide +kernel
theorem zb_66 : zv_b66.all (zchkb 66) = true := by
  have e : zv_b66 = (zv_b66.drop 0).take 2 := rfl
  rw [e]
  simp only [List.all_append, zb_66_0, Bool.and_self]
theorem zb_67_0 : ((zv_b67.drop 0).take 4).all (zchkb 67) = true := by decide +kernel
theorem zb_67 : zv_b67.all (zchkb 67) = true := by
  have e : zv_b67 = (zv_b67.drop 0).take 4 := rfl
  rw [e]
  simp only [List.all_append, zb_67_0, Bool.and_self]
theorem zb_68_0 : ((zv_b68.drop 0).take 7).all (zchkb 68) = true := by decide +kernel
theorem zb_68 : zv_b68.all (zchkb 68) = true := by
  have e : zv_b68 = (zv_b68.drop 0).take 7 := rfl
  rw [e]
  simp only [List.all_append, zb_68_0, Bool.and_self]
theorem zb_69_0 : ((zv_b69.drop 0).take 3).all (zchkb 69) = true := by decide +kernel
theorem zb_69_3 : ((zv_b69.drop 3).take 2).all (zchkb 69) = true := by decide +kernel
theorem zb_69 : zv_b69.all (zchkb 69) = true := by
  have e : zv_b69 = (zv_b69.drop 0).take 3 ++ ((zv_b69.drop 3).take 2) := rfl
  rw [e]
  simp only [List.all_append, zb_69_0, zb_69_3, Bool.and_self]
theorem zb_70_0 : ((zv_b70.drop 0).take 3).all (zchkb 70) = true := by decide +kernel
theorem zb_70_3 : ((zv_b70.drop 3).take 1).all (zchkb 70) = true := by decide +kernel
theorem zb_70_4 : ((zv_b70.drop 4).take 4).all (zchkb 70) = true := by decide +kernel
theorem zb_70 : zv_b70.all (zchkb 70) = true := by
  have e : zv_b70 = (zv_b70.drop 0).take 3 ++ ((zv_b70.drop 3).take 1 ++ ((zv_b70.drop 4).take 4)) := rfl
  rw [e]
  simp only [List.all_append, zb_70_0, zb_70_3, zb_70_4, Bool.and_self]
theorem zb_71_0 : ((zv_b71.drop 0).take 3).all (zchkb 71) = true := by decide +kernel
theorem zb_71 : zv_b71.all (zchkb 71) = true := by
  have e : zv_b71 = (zv_b71.drop 0).take 3 := rfl
  rw [e]
  simp only [List.all_append, zb_71_0, Bool.and_self]
theorem zb_72_0 : ((zv_b72.drop 0).take 2).all (zchkb 72) = true := by decide +kernel
theorem zb_72 : zv_b72.all (zchkb 72) = true := by
  have e : zv_b72 = (zv_b72.drop 0).take 2 := rfl
  rw [e]
  simp only [List.all_append, zb_72_0, Bool.and_self]
theorem zb_73_0 : ((zv_b73.drop 0).take 4).all (zchkb 73) = true := by decide +kernel
theorem zb_73_4 : ((zv_b73.drop 4).take 1).all (zchkb 73) = true := by decide +kernel
theorem zb_73 : zv_b73.all (zchkb 73) = true := by
  have e : zv_b73 = (zv_b73.drop 0).take 4 ++ ((zv_b73.drop 4).take 1) := rfl
  rw [e]
  simp only [List.all_append, zb_73_0, zb_73_4, Bool.and_self]
theorem zb_74_0 : ((zv_b74.drop 0).take 5).all (zchkb 74) = true := by decide +kernel
theorem zb_74_5 : ((zv_b74.drop 5).take 1).all (zchkb 74) = true := by decide +kernel
theorem zb_74 : zv_b74.all (zchkb 74) = true := by
  have e : zv_b74 = (zv_b74.drop 0).take 5 ++ ((zv_b74.drop 5).take 1) := rfl
  rw [e]
  simp only [List.all_append, zb_74_0, zb_74_5, Bool.and_self]
theorem zb_75_0 : ((zv_b75.drop 0).take 3).all (zchkb 75) = true := by decide +kernel
theorem zb_75_3 : ((zv_b75.drop 3).take 3).all (zchkb 75) = true := by decide +kernel
theorem zb_75 : zv_b75.all (zchkb 75) = true := by
  have e : zv_b75 = (zv_b75.drop 0).take 3 ++ ((zv_b75.drop 3).take 3) := rfl
  rw [e]
  simp only [List.all_append, zb_75_0, zb_75_3, Bool.and_self]
theorem zb_76_0 : ((zv_b76.drop 0).take 5).all (zchkb 76) = true := by decide +kernel
theorem zb_76_5 : ((zv_b76.drop 5).take 4).all (zchkb 76) = true := by decide +kernel
theorem zb_76_9 : ((zv_b76.drop 9).take 4).all (zchkb 76) = true := by decide +kernel
theorem zb_76 : zv_b76.all (zchkb 76) = true := by
  have e : zv_b76 = (zv_b76.drop 0).take 5 ++ ((zv_b76.drop 5).take 4 ++ ((zv_b76.drop 9).take 4)) := rfl
  rw [e]
  simp only [List.all_append, zb_76_0, zb_76_5, zb_76_9, Bool.and_self]
theorem zb_77_0 : ((zv_b77.drop 0).take 5).all (zchkb 77) = true := by decide +kernel
theorem zb_77 : zv_b77.all (zchkb 77) = true := by
  have e : zv_b77 = (zv_b77.drop 0).take 5 := rfl
  rw [e]
  simp only [List.all_append, zb_77_0, Bool.and_self]
theorem zb_78_0 : ((zv_b78.drop 0).take 5).all (zchkb 78) = true := by decide +kernel
theorem zb_78 : zv_b78.all (zchkb 78) = true := by
  have e : zv_b78 = (zv_b78.drop 0).take 5 := rfl
  rw [e]
  simp only [List.all_append, zb_78_0, Bool.and_self]
theorem zb_79_0 : ((zv_b79.drop 0).take 3).all (zchkb 79) = true := by decide +kernel
theorem zb_79 : zv_b79.all (zchkb 79) = true := by
  have e : zv_b79 = (zv_b79.drop 0).take 3 := rfl
  rw [e]
  simp only [List.all_append, zb_79_0, Bool.and_self]
theorem zb_80_0 : ((zv_b80.drop 0).take 8).all (zchkb 80) = true := by decide +kernel
theorem zb_80 : zv_b80.all (zchkb 80) = true := by
  have e : zv_b80 = (zv_b80.drop 0).take 8 := rfl
  rw [e]
  simp only [List.all_append, zb_80_0, Bool.and_self]
theorem zb_81_0 : ((zv_b81.drop 0).take 1).all (zchkb 81) = true := by decide +kernel
theorem zb_81 : zv_b81.all (zchkb 81) = true := by
  have e : zv_b81 = (zv_b81.drop 0).take 1 := rfl
  rw [e]
  simp only [List.all_append, zb_81_0, Bool.and_self]
theorem zb_82_0 : ((zv_b82.drop 0).take 2).all (zchkb 82) = true := by decide +kernel
theorem zb_82 : zv_b82.all (zchkb 82) = true := by
  have e : zv_b82 = (zv_b82.drop 0).take 2 := rfl
  rw [e]
  simp only [List.all_append, zb_82_0, Bool.and_self]
theorem zb_83_0 : ((zv_b83.drop 0).take 3).all (zchkb 83) = true := by decide +kernel
theorem zb_83 : zv_b83.all (zchkb 83) = true := by
  have e : zv_b83 = (zv_b83.drop 0).take 3 := rfl
  rw [e]
  simp only [List.all_append, zb_83_0, Bool.and_self]
theorem zb_84_0 : ((zv_b84.drop 0).take 1).all (zchkb 84) = true := by decide +kernel
theorem zb_84_1 : ((zv_b84.drop 1).take 1).all (zchkb 84) = true := by decide +kernel
theorem zb_84 : zv_b84.all (zchkb 84) = true := by
  have e : zv_b84 = (zv_b84.drop 0).take 1 ++ ((zv_b84.drop 1).take 1) := rfl
  rw [e]
  simp only [List.all_append, zb_84_0, zb_84_1, Bool.and_self]
theorem zb_85_0 : ((zv_b85.drop 0).take 4).all (zchkb 85) = true := by decide +kernel
theorem zb_85 : zv_b85.all (zchkb 85) = true := by
  have e : zv_b85 = (zv_b85.drop 0).take 4 := rfl
  rw [e]
  simp only [List.all_append, zb_85_0, Bool.and_self]
theorem zb_86_0 : ((zv_b86.drop 0).take 4).all (zchkb 86) = true := by decide +kernel
theorem zb_86 : zv_b86.all (zchkb 86) = true := by
  have e : zv_b86 = (zv_b86.drop 0).take 4 := rfl
  rw [e]
  simp only [List.all_append, zb_86_0, Bool.and_self]
theorem zb_87_0 : ((zv_b87.drop 0).take 4).all (zchkb 87) = true := by decide +kernel
theorem zb_87_4 : ((zv_b87.drop 4).take 2).all (zchkb 87) = true := by decide +kernel
theorem zb_87 : zv_b87.all (zchkb 87) = true := by
  have e : zv_b87 = (zv_b87.drop 0).take 4 ++ ((zv_b87.drop 4).take 2) := rfl
  rw [e]
  simp only [List.all_append, zb_87_0, zb_87_4, Bool.and_self]
theorem zb_88_0 : ((zv_b88.drop 0).take 2).all (zchkb 88) = true := by decide +kernel
theorem zb_88 : zv_b88.all (zchkb 88) = true := by
  have e : zv_b88 = (zv_b88.drop 0).take 2 := rfl
  rw [e]
  simp only [List.all_append, zb_88_0, Bool.and_self]
theorem zb_89_0 : ((zv_b89.drop 0).take 4).all (zchkb 89) = true := by decide +kernel
theorem zb_89_4 : ((zv_b89.drop 4).take 1).all (zchkb 89) = true := by decide +kernel
theorem zb_89 : zv_b89.all (zchkb 89) = true := by
  have e : zv_b89 = (zv_b89.drop 0).take 4 ++ ((zv_b89.drop 4).take 1) := rfl
  rw [e]
  simp only [List.all_append, zb_89_0, zb_89_4, Bool.and_self]
theorem zb_90_0 : ((zv_b90.drop 0).take 1).all (zchkb 90) = true := by decide +kernel
theorem zb_90 : zv_b90.all (zchkb 90) = true := by
  have e : zv_b90 = (zv_b90.drop 0).take 1 := rfl
  rw [e]
  simp only [List.all_append, zb_90_0, Bool.and_self]
theorem zb_91_0 : ((zv_b91.drop 0).take 1).all (zchkb 91) = true := by decide +kernel
theorem zb_91 : zv_b91.all (zchkb 91) = true := by
  have e : zv_b91 = (zv_b91.drop 0).take 1 := rfl
  rw [e]
  simp only [List.all_append, zb_91_0, Bool.and_self]
theorem zb_92_0 : ((zv_b92.drop 0).take 3).all (zchkb 92) = true := by decide +kernel
theorem zb_92 : zv_b92.all (zchkb 92) = true := by
  have e : zv_b92 = (zv_b92.drop 0).take 3 := rfl
  rw [e]
  simp only [List.all_append, zb_92_0, Bool.and_self]
theorem zb_93_0 : ((zv_b93.drop 0).take 1).all (zchkb 93) = true := by decide +kernel
theorem zb_93 : zv_b93.all (zchkb 93) = true := by
  have e : zv_b93 = (zv_b93.drop 0).take 1 := rfl
  rw [e]
  simp only [List.all_append, zb_93_0, Bool.and_self]
theorem zb_94_0 : ((zv_b94.drop 0).take 4).all (zchkb 94) = true := by decide +kernel
theorem zb_94_4 : ((zv_b94.drop 4).take 5).all (zchkb 94) = true := by decide +kernel
theorem zb_94 : zv_b94.all (zchkb 94) = true := by
  have e : zv_b94 = (zv_b94.drop 0).take 4 ++ ((zv_b94.drop 4).take 5) := rfl
  rw [e]
  simp only [List.all_append, zb_94_0, zb_94_4, Bool.and_self]
theorem zb_95_0 : ((zv_b95.drop 0).take 8).all (zchkb 95) = true := by decide +kernel
theorem zb_95 : zv_b95.all (zchkb 95) = true := by
  have e : zv_b95 = (zv_b95.drop 0).take 8 := rfl
  rw [e]
  simp only [List.all_append, zb_95_0, Bool.and_self]
theorem zb_96_0 : ((zv_b96.drop 0).take 3).all (zchkb 96) = true := by decide +kernel
theorem zb_96 : zv_b96.all (zchkb 96) = true := by
  have e : zv_b96 = (zv_b96.drop 0).take 3 := rfl
  rw [e]
  simp only [List.all_append, zb_96_0, Bool.and_self]
theorem zb_97_0 : ((zv_b97.drop 0).take 7).all (zchkb 97) = true := by decide +kernel
theorem zb_97 : zv_b97.all (zchkb 97) = true := by
  have e : zv_b97 = (zv_b97.drop 0).take 7 := rfl
  rw [e]
  simp only [List.all_append, zb_97_0, Bool.and_self]
theorem zb_98_0 : ((zv_b98.drop 0).take 4).all (zchkb 98) = true := by decide +kernel
theorem zb_98 : zv_b98.all (zchkb 98) = true := by
  have e : zv_b98 = (zv_b98.drop 0).take 4 := rfl
  rw [e]
  simp only [List.all_append, zb_98_0, Bool.and_self]
theorem zb_99_0 : ((zv_b99.drop 0).take 4).all (zchkb 99) = true := by decide +kernel
theorem zb_99_4 : ((zv_b99.drop 4).take 4).all (zchkb 99) = true := by decide +kernel
theorem zb_99_8 : ((zv_b99.drop 8).take 3).all (zchkb 99) = true := by decide +kernel
theorem zb_99 : zv_b99.all (zchkb 99) = true := by
  have e : zv_b99 = (zv_b99.drop 0).take 4 ++ ((zv_b99.drop 4).take 4 ++ ((zv_b99.drop 8).take 3)) := rfl
  rw [e]
  simp only [List.all_append, zb_99_0, zb_99_4, zb_99_8, Bool.and_self]
theorem zb_100_0 : ((zv_b100.drop 0).take 2).all (zchkb 100) = true := by decide +kernel
theorem zb_100_2 : ((zv_b100.drop 2).take 1).all (zchkb 100) = true := by decide +kernel
theorem zb_100_3 : ((zv_b100.drop 3).take 5).all (zchkb 100) = true := by decide +kernel
theorem zb_100 : zv_b100.all (zchkb 100) = true := by
  have e : zv_b100 = (zv_b100.drop 0).take 2 ++ ((zv_b100.drop 2).take 1 ++ ((zv_b100.drop 3).take 5)) := rfl
  rw [e]
  simp only [List.all_append, zb_100_0, zb_100_2, zb_100_3, Bool.and_self]
theorem zb_101_0 : ((zv_b101.drop 0).take 1).all (zchkb 101) = true := by decide +kernel
theorem zb_101 : zv_b101.all (zchkb 101) = true := by
  have e : zv_b101 = (zv_b101.drop 0).take 1 := rfl
  rw [e]
  simp only [List.all_append, zb_101_0, Bool.and_self]
theorem zb_102_0 : ((zv_b102.drop 0).take 3).all (zchkb 102) = true := by decide +kernel
theorem zb_102 : zv_b102.all (zchkb 102) = true := by
  have e : zv_b102 = (zv_b102.drop 0).take 3 := rfl
  rw [e]
  simp only [List.all_append, zb_102_0, Bool.and_self]
theorem zb_103_0 : ((zv_b103.drop 0).take 3).all (zchkb 103) = true := by decide +kernel
theorem zb_103 : zv_b103.all (zchkb 103) = true := by
  have e : zv_b103 = (zv_b103.drop 0).take 3 := rfl
  rw [e]
  simp only [List.all_append, zb_103_0, Bool.and_self]
theorem zb_104_0 : ((zv_b104.drop 0).take 2).all (zchkb 104) = true := by decide +kernel
theorem zb_104_2 : ((zv_b104.drop 2).take 2).all (zchkb 104) = true := by decide +kernel
theorem zb_104_4 : ((zv_b104.drop 4).take 5).all (zchkb 104) = true := by decide +kernel
theorem zb_104 : zv_b104.all (zchkb 104) = true := by
  have e : zv_b104 = (zv_b104.drop 0).take 2 ++ ((zv_b104.drop 2).take 2 ++ ((zv_b104.drop 4).take 5)) := rfl
  rw [e]
  simp only [List.all_append, zb_104_0, zb_104_2, zb_104_4, Bool.and_self]
