/-! every block of every method is checked by the kernel -/
theorem zb_105_0 : ((zv_b105.drop 0).take 1).all (zchkb 105) = true := by decide +kernel
theorem zb_105 : zv_b105.all (zchkb 105) = true := by
  have e : zv_b105 = (zv_b105.drop 0).take 1 := rfl
  rw [e]
  simp only [List.all_append, zb_105_0, Bool.and_self]
theorem zb_106_0 : ((zv_b106.drop 0).take 3).all (zchkb 106) = true := by decide +kernel
theorem zb_106_3 : ((zv_b106.drop 3).take 3).all (zchkb 106) = true := by decide +kernel
theorem zb_106 : zv_b106.all (zchkb 106) = true := by
  have e : zv_b106 = (zv_b106.drop 0).take 3 ++ ((zv_b106.drop 3).take 3) := rfl
  rw [e]
  simp only [List.all_append, zb_106_0, zb_106_3, Bool.and_self]
theorem zb_107_0 : ((zv_b107.drop 0).take 1).all (zchkb 107) = true := by decide +kernel
theorem zb_107 : zv_b107.all (zchkb 107) = true := by
  have e : zv_b107 = (zv_b107.drop 0).take 1 := rfl
  rw [e]
  simp only [List.all_append, zb_107_0, Bool.and_self]
theorem zb_108_0 : ((zv_b108.drop 0).take 1).all (zchkb 108) = true := by decide +kernel
theorem zb_108 : zv_b108.all (zchkb 108) = true := by
  have e : zv_b108 = (zv_b108.drop 0).take 1 := rfl
  rw [e]
  simp only [List.all_append, zb_108_0, Bool.and_self]
theorem zb_109_0 : ((zv_b109.drop 0).take 5).all (zchkb 109) = true := by decide +kernel
theorem zb_109 : zv_b109.all (zchkb 109) = true := by
  have e : zv_b109 = (zv_b109.drop 0).take 5 := rfl
  rw [e]
  simp only [List.all_append, zb_109_0, Bool.and_self]
theorem zb_110_0 : ((zv_b110.drop 0).take 4).all (zchkb 110) = true := by decide +kernel
theorem zb_110_4 : ((zv_b110.drop 4).take 3).all (zchkb 110) = true := by decide +kernel
theorem zb_110 : zv_b110.all (zchkb 110) = true := by
  have e : zv_b110 = (zv_b110.drop 0).take 4 ++ ((zv_b110.drop 4).take 3) := rfl
  rw [e]
  simp only [List.all_append, zb_110_0, zb_110_4, Bool.and_self]
theorem zb_111_0 : ((zv_b111.drop 0).take 2).all (zchkb 111) = true := by decide +kernel
theorem zb_111_2 : ((zv_b111.drop 2).take 1).all (zchkb 111) = true := by decide +kernel
theorem zb_111 : zv_b111.all (zchkb 111) = true := by
  have e : zv_b111 = (zv_b111.drop 0).take 2 ++ ((zv_b111.drop 2).take 1) := rfl
  rw [e]
  simp only [List.all_append, zb_111_0, zb_111_2, Bool.and_self]
theorem zb_112_0 : ((zv_b112.drop 0).take 4).all (zchkb 112) = true := by decide +kernel
theorem zb_112_4 : ((zv_b112.drop 4).take 8).all (zchkb 112) = true := by decide +kernel
theorem zb_112_12 : ((zv_b112.drop 12).take 2).all (zchkb 112) = true := by decide +kernel
theorem zb_112 : zv_b112.all (zchkb 112) = true := by
  have e : zv_b112 = (zv_b112.drop 0).take 4 ++ ((zv_b112.drop 4).take 8 ++ ((zv_b112.drop 12).take 2)) := rfl
  rw [e]
  simp only [List.all_append, zb_112_0, zb_112_4, zb_112_12, Bool.and_self]
theorem zb_113_0 : ((zv_b113.drop 0).take 1).all (zchkb 113) = true := by decide +kernel
theorem zb_113 : zv_b113.all (zchkb 113) = true := by
  have e : zv_b113 = (zv_b113.drop 0).take 1 := rfl
  rw [e]
  simp only [List.all_append, zb_113_0, Bool.and_self]
theorem zb_114_0 : ((zv_b114.drop 0).take 3).all (zchkb 114) = true := by decide +kernel
theorem zb_114 : zv_b114.all (zchkb 114) = true := by
  have e : zv_b114 = (zv_b114.drop 0).take 3 := rfl
  rw [e]
  simp only [List.all_append, zb_114_0, Bool.and_self]
theorem zb_115_0 : ((zv_b115.drop 0).take 3).all (zchkb 115) = true := by decide +kernel
theorem zb_115 : zv_b115.all (zchkb 115) = true := by
  have e : zv_b115 = (zv_b115.drop 0).take 3 := rfl
  rw [e]
  simp only [List.all_append, zb_115_0, Bool.and_self]
theorem zb_116_0 : ((zv_b116.drop 0).take 1).all (zchkb 116) = true := by decide +kernel
theorem zb_116_1 : ((zv_b116.drop 1).take 2).all (zchkb 116) = true := by decide +kernel
theorem zb_116_3 : ((zv_b116.drop 3).take 1).all (zchkb 116) = true := by decide +kernel
theorem zb_116_4 : ((zv_b116.drop 4).take 4).all (zchkb 116) = true := by decide +kernel
theorem zb_116 : zv_b116.all (zchkb 116) = true := by
  have e : zv_b116 = (zv_b116.drop 0).take 1 ++ ((zv_b116.drop 1).take 2 ++ ((zv_b116.drop 3).take 1 ++ ((zv_b116.drop 4).take 4))) := rfl
  rw [e]
  simp only [List.all_append, zb_116_0, zb_116_1, zb_116_3, zb_116_4, Bool.and_self]
theorem zb_117_0 : ((zv_b117.drop 0).take 3).all (zchkb 117) = true := by decide +kernel
theorem zb_117 : zv_b117.all (zchkb 117) = true := by
  have e : zv_b117 = (zv_b117.drop 0).take 3 := rfl
  rw [e]
  simp only [List.all_append, zb_117_0, Bool.and_self]
theorem zb_118_0 : ((zv_b118.drop 0).take 3).all (zchkb 118) = true := by decide +kernel
theorem zb_118 : zv_b118.all (zchkb 118) = true := by
  have e : zv_b118 = (zv_b118.drop 0).take 3 := rfl
  rw [e]
  simp only [List.all_append, zb_118_0, Bool.and_self]
theorem zb_119_0 : ((zv_b119.drop 0).take 5).all (zchkb 119) = true := by decide +kernel
theorem zb_119 : zv_b119.all (zchkb 119) = true := by
  have e : zv_b119 = (zv_b119.drop 0).take 5 := rfl
  rw [e]
  simp only [List.all_append, zb_119_0, Bool.and_self]
theorem zb_120_0 : ((zv_b120.drop 0).take 1).all (zchkb 120) = true := by decide +kernel
theorem zb_120 : zv_b120.all (zchkb 120) = true := by
  have e : zv_b120 = (zv_b120.drop 0).take 1 := rfl
  rw [e]
  simp only [List.all_append, zb_120_0, Bool.and_self]
theorem zb_121_0 : ((zv_b121.drop 0).take 3).all (zchkb 121) = true := by decide +kernel
theorem zb_121 : zv_b121.all (zchkb 121) = true := by
  have e : zv_b121 = (zv_b121.drop 0).take 3 := rfl
  rw [e]
  simp only [List.all_append, zb_121_0, Bool.and_self]
theorem zb_122_0 : ((zv_b122.drop 0).take 1).all (zchkb 122) = true := by decide +kernel
theorem zb_122 : zv_b122.all (zchkb 122) = true := by
  have e : zv_b122 = (zv_b122.drop 0).take 1 := rfl
  rw [e]
  simp only [List.all_append, zb_122_0, Bool.and_self]
theorem zb_123_0 : ((zv_b123.drop 0).take 3).all (zchkb 123) = true := by decide +kernel
theorem zb_123 : zv_b123.all (zchkb 123) = true := by
  have e : zv_b123 = (zv_b123.drop 0).take 3 := rfl
  rw [e]
  simp only [List.all_append, zb_123_0, Bool.and_self]
theorem zb_124_0 : ((zv_b124.drop 0).take 3).all (zchkb 124) = true := by decide +kernel
theorem zb_124 : zv_b124.all (zchkb 124) = true := by
  have e : zv_b124 = (zv_b124.drop 0).take 3 := rfl
  rw [e]
  simp only [List.all_append, zb_124_0, Bool.and_self]
theorem zb_125_0 : ((zv_b125.drop 0).take 1).all (zchkb 125) = true := by decide +kernel
theorem zb_125_1 : ((zv_b125.drop 1).take 3).all (zchkb 125) = true := by decide +kernel
theorem zb_125 : zv_b125.all (zchkb 125) = true := by
  have e : zv_b125 = (zv_b125.drop 0).take 1 ++ ((zv_b125.drop 1).take 3) := rfl
  rw [e]
  simp only [List.all_append, zb_125_0, zb_125_1, Bool.and_self]
theorem zb_126_0 : ((zv_b126.drop 0).take 5).all (zchkb 126) = true := by decide +kernel
theorem zb_126 : zv_b126.all (zchkb 126) = true := by
  have e : zv_b126 = (zv_b126.drop 0).take 5 := rfl
  rw [e]
  simp only [List.all_append, zb_126_0, Bool.and_self]
theorem zb_127_0 : ((zv_b127.drop 0).take 1).all (zchkb 127) = true := by decide +kernel
theorem zb_127 : zv_b127.all (zchkb 127) = true := by
  have e : zv_b127 = (zv_b127.drop 0).take 1 := rfl
  rw [e]
  simp only [List.all_append, zb_127_0, Bool.and_self]
theorem zb_128_0 : ((zv_b128.drop 0).take 1).all (zchkb 128) = true := by decide +kernel
theorem zb_128_1 : ((zv_b128.drop 1).take 2).all (zchkb 128) = true := by decide +kernel
theorem zb_128_3 : ((zv_b128.drop 3).take 3).all (zchkb 128) = true := by decide +kernel
theorem zb_128_6 : ((zv_b128.drop 6).take 2).all (zchkb 128) = true := by decide +kernel
theorem zb_128_8 : ((zv_b128.drop 8).take 1).all (zchkb 128) = true := by decide +kernel
theorem zb_128 : zv_b128.all (zchkb 128) = true := by
  have e : zv_b128 = (zv_b128.drop 0).take 1 ++ ((zv_b128.drop 1).take 2 ++ ((zv_b128.drop 3).take 3 ++ ((zv_b128.drop 6).take 2 ++ ((zv_b128.drop 8).take 1)))) := rfl
  rw [e]
  simp only [List.all_append, zb_128_0, zb_128_1, zb_128_3, zb_128_6, zb_128_8, Bool.and_self]
theorem zb_129_0 : ((zv_b129.drop 0).take 3).all (zchkb 129) = true := by decide +kernel
theorem zb_129_3 : ((zv_b129.drop 3).take 2).all (zchkb 129) = true := by decide +kernel
theorem zb_129_5 : ((zv_b129.drop 5).take 3).all (zchkb 129) = true := by decide +kernel
theorem zb_129 : zv_b129.all (zchkb 129) = true := by
  have e : zv_b129 = (zv_b129.drop 0).take 3 ++ ((zv_b129.drop 3).take 2 ++ ((zv_b129.drop 5).take 3)) := rfl
  rw [e]
  simp only [List.all_append, zb_129_0, zb_129_3, zb_129_5, Bool.and_self]
theorem zb_130_0 : ((zv_b130.drop 0).take 2).all (zchkb 130) = true := by decide +kernel
theorem zb_130_2 : ((zv_b130.drop 2).take 1).all (zchkb 130) = true := by decide +kernel
theorem zb_130 : zv_b130.all (zchkb 130) = true := by
  have e : zv_b130 = (zv_b130.drop 0).take 2 ++ ((zv_b130.drop 2).take 1) := rfl
  rw [e]
  simp only [List.all_append, zb_130_0, zb_130_2, Bool.and_self]
theorem zb_131_0 : ((zv_b131.drop 0).take 1).all (zchkb 131) = true := by decide +kernel
theorem zb_131 : zv_b131.all (zchkb 131) = true := by
  have e : zv_b131 = (zv_b131.drop 0).take 1 := rfl
  rw [e]
  simp only [List.all_append, zb_131_0, Bool.and_self]
theorem zb_132_0 : ((zv_b132.drop 0).take 1).all (zchkb 132) = true := by decide +kernel
theorem zb_132 : zv_b132.all (zchkb 132) = true := by
  have e : zv_b132 = (zv_b132.drop 0).take 1 := rfl
  rw [e]
  simp only [List.all_append, zb_132_0, Bool.and_self]
theorem zb_133_0 : ((zv_b133.drop 0).take 8).all (zchkb 133) = true := by decide +kernel
theorem zb_133_8 : ((zv_b133.drop 8).take 7).all (zchkb 133) = true := by decide +kernel
theorem zb_133 : zv_b133.all (zchkb 133) = true := by
  have e : zv_b133 = (zv_b133.drop 0).take 8 ++ ((zv_b133.drop 8).take 7) := rfl
  rw [e]
  simp only [List.all_append, zb_133_0, zb_133_8, Bool.and_self]
theorem zb_134_0 : ((zv_b134.drop 0).take 3).all (zchkb 134) = true := by decide +kernel
theorem zb_134_3 : ((zv_b134.drop 3).take 1).all (zchkb 134) = true := by decide +kernel
theorem zb_134 : zv_b134.all (zchkb 134) = true := by
  have e : zv_b134 = (zv_b134.drop 0).take 3 ++ ((zv_b134.drop 3).take 1) := rfl
  rw [e]
  simp only [List.all_append, zb_134_0, zb_134_3, Bool.and_self]
theorem zb_135_0 : ((zv_b135.drop 0).take 1).all (zchkb 135) = true := by decide +kernel
theorem zb_135 : zv_b135.all (zchkb 135) = true := by
  have e : zv_b135 = (zv_b135.drop 0).take 1 := rfl
  rw [e]
  simp only [List.all_append, zb_135_0, Bool.and_self]
theorem zb_136_0 : ((zv_b136.drop 0).take 3).all (zchkb 136) = true := by decide +kernel
theorem zb_136_3 : ((zv_b136.drop 3).take 1).all (zchkb 136) = true := by decide +kernel
theorem zb_136_4 : ((zv_b136.drop 4).take 1).all (zchkb 136) = true := by decide +kernel
theorem zb_136 : zv_b136.all (zchkb 136) = true := by
  have e : zv_b136 = (zv_b136.drop 0).take 3 ++ ((zv_b136.drop 3).take 1 ++ ((zv_b136.drop 4).take 1)) := rfl
  rw [e]
  simp only [List.all_append, zb_136_0, zb_136_3, zb_136_4, Bool.and_self]
theorem zb_137_0 : ((zv_b137.drop 0).take 2).all (zchkb 137) = true := by decide +kernel
theorem zb_137 : zv_b137.all (zchkb 137) = true := by
  have e : zv_b137 = (zv_b137.drop 0).take 2 := rfl
  rw [e]
  simp only [List.all_append, zb_137_0, Bool.and_self]
theorem zb_138_0 : ((zv_b138.drop 0).take 5).all (zchkb 138) = true := by decide +kernel
theorem zb_138_5 : ((zv_b138.drop 5).take 1).all (zchkb 138) = true := by decide +kernel
theorem zb_138_6 : ((zv_b138.drop 6).take 6).all (zchkb 138) = true := by decide +kernel
theorem zb_138 : zv_b138.all (zchkb 138) = true := by
  have e : zv_b138 = (zv_b138.drop 0).take 5 ++ ((zv_b138.drop 5).take 1 ++ ((zv_b138.drop 6).take 6)) := rfl
  rw [e]
  simp only [List.all_append, zb_138_0, zb_138_5, zb_138_6, Bool.and_self]
theorem zb_139_0 : ((zv_b139.drop 0).take 3).all (zchkb 139) = true := by decide +kernel
theorem zb_139 : zv_b139.all (zchkb 139) = true := by
  have e : zv_b139 = (zv_b139.drop 0).take 3 := rfl
  rw [e]
  simp only [List.all_append, zb_139_0, Bool.and_self]
theorem zb_140_0 : ((zv_b140.drop 0).take 5).all (zchkb 140) = true := by decide +kernel
theorem zb_140 : zv_b140.all (zchkb 140) = true := by
  have e : zv_b140 = (zv_b140.drop 0).take 5 := rfl
  rw [e]
  simp only [List.all_append, zb_140_0, Bool.and_self]
theorem zb_141_0 : ((zv_b141.drop 0).take 4).all (zchkb 141) = true := by decide +kernel
theorem zb_141_4 : ((zv_b141.drop 4).take 4).all (zchkb 141) = true := by decide +kernel
theorem zb_141 : zv_b141.all (zchkb 141) = true := by
  have e : zv_b141 = (zv_b141.drop 0).take 4 ++ ((zv_b141.drop 4).take 4) := rfl
  rw [e]
  simp only [List.all_append, zb_141_0, zb_141_4, Bool.and_self]
theorem zb_142_0 : ((zv_b142.drop 0).take 7).all (zchkb 142) = true := by decide +kernel
theorem zb_142_7 : ((zv_b142.drop 7).take 2).all (zchkb 142) = true := by decide +kernel
theorem zb_142 : zv_b142.all (zchkb 142) = true := by
  have e : zv_b142 = (zv_b142.drop 0).take 7 ++ ((zv_b142.drop 7).take 2) := rfl
  rw [e]
  simp only [List.all_append, zb_142_0, zb_142_7, Bool.and_self]
theorem zb_143_0 : ((zv_b143.drop 0).take 2).all (zchkb 143) = true := by decide +kernel
theorem zb_143 : zv_b143.all (zchkb 143) = true := by
  have e : zv_b143 = (zv_b143.drop 0).take 2 := rfl
  rw [e]
  simp only [List.all_append, zb_143_0, Bool.and_self]
theorem zb_144_0 : ((zv_b144.drop 0).take 3).all (zchkb 144) = true := by decide +kernel
theorem zb_144 : zv_b144.all (zchkb 144) = true := by
  have e : zv_b144 = (zv_b144.drop 0).take 3 := rfl
  rw [e]
  simp only [List.all_append, zb_144_0, Bool.and_self]
theorem zb_145_0 : ((zv_b145.drop 0).take 4).all (zchkb 145) = true := by decide +kernel
theorem zb_145 : zv_b145.all (zchkb 145) = true := by
  have e : zv_b145 = (zv_b145.drop 0).take 4 := rfl
  rw [e]
  simp only [List.all_append, zb_145_0, Bool.and_self]
theorem zb_146_0 : ((zv_b146.drop 0).take 1).all (zchkb 146) = true := by decide +kernel
theorem zb_146 : zv_b146.all (zchkb 146) = true := by
  have e : zv_b146 = (zv_b146.drop 0).take 1 := rfl
  rw [e]
  simp only [List.all_append, zb_146_0, Bool.and_self]
theorem zb_147_0 : ((zv_b147.drop 0).take 6).all (zchkb 147) = true := by decide +kernel
theorem zb_147_6 : ((zv_b147.drop 6).take 1).all (zchkb 147) = true := by decide +kernel
theorem zb_147 : zv_b147.all (zchkb 147) = true := by
  have e : zv_b147 = (zv_b147.drop 0).take 6 ++ ((zv_b147.drop 6).take 1) := rfl
  rw [e]
  simp only [List.all_append, zb_147_0, zb_147_6, Bool.and_self]
theorem zb_148_0 : ((zv_b148.drop 0).take 8).all (zchkb 148) = true := by decide +kernel
theorem zb_148 : zv_b148.all (zchkb 148) = true := by
  have e : zv_b148 = (zv_b148.drop 0).take 8 := rfl
  rw [e]
  simp only [List.all_append, zb_148_0, Bool.and_self]
theorem zb_149_0 : ((zv_b149.drop 0).take 4).all (zchkb 149) = true := by decide +kernel
theorem zb_149_4 : ((zv_b149.drop 4).take 5).all (zchkb 149) = true := by decide +kernel
theorem zb_149_9 : ((zv_b149.drop 9).take 2).all (zchkb 149) = true := by decide +kernel
theorem zb_149_11 : ((zv_b149.drop 11).take 3).all (zchkb 149) = true := by decide +kernel
theorem zb_149_14 : ((zv_b149.drop 14).take 8).all (zchkb 149) = true := by decide +kernel
theorem zb_149 : zv_b149.all (zchkb 149) = true := by
  have e : zv_b149 = (zv_b149.drop 0).take 4 ++ ((zv_b149.drop 4).take 5 ++ ((zv_b149.drop 9).take 2 ++ ((zv_b149.drop 11).take 3 ++ ((zv_b149.drop 14).take 8)))) := rfl
  rw [e]
  simp only [List.all_append, zb_149_0, zb_149_4, zb_149_9, zb_149_11, zb_149_14, Bool.and_self]
