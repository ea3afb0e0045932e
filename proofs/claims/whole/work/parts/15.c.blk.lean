/-! every block of every method is checked by the kernel -/
theorem zb_105_0 : ((zv_b105.drop 0).take 1).all (fun b => zchkl 105 b.2.2) = true := by decide +kernel
theorem zb_105 : zv_b105.all (fun b => zchkl 105 b.2.2) = true := by
  have e : zv_b105 = (zv_b105.drop 0).take 1 := rfl
  rw [e]
  simp only [List.all_append, zb_105_0, Bool.and_self]
theorem zb_106_0 : ((zv_b106.drop 0).take 3).all (fun b => zchkl 106 b.2.2) = true := by decide +kernel
theorem zb_106_3 : ((zv_b106.drop 3).take 3).all (fun b => zchkl 106 b.2.2) = true := by decide +kernel
theorem zb_106 : zv_b106.all (fun b => zchkl 106 b.2.2) = true := by
  have e : zv_b106 = (zv_b106.drop 0).take 3 ++ ((zv_b106.drop 3).take 3) := rfl
  rw [e]
  simp only [List.all_append, zb_106_0, zb_106_3, Bool.and_self]
theorem zb_107_0 : ((zv_b107.drop 0).take 1).all (fun b => zchkl 107 b.2.2) = true := by decide +kernel
theorem zb_107 : zv_b107.all (fun b => zchkl 107 b.2.2) = true := by
  have e : zv_b107 = (zv_b107.drop 0).take 1 := rfl
  rw [e]
  simp only [List.all_append, zb_107_0, Bool.and_self]
theorem zb_108_0 : ((zv_b108.drop 0).take 1).all (fun b => zchkl 108 b.2.2) = true := by decide +kernel
theorem zb_108 : zv_b108.all (fun b => zchkl 108 b.2.2) = true := by
  have e : zv_b108 = (zv_b108.drop 0).take 1 := rfl
  rw [e]
  simp only [List.all_append, zb_108_0, Bool.and_self]
theorem zb_109_0 : ((zv_b109.drop 0).take 5).all (fun b => zchkl 109 b.2.2) = true := by decide +kernel
theorem zb_109 : zv_b109.all (fun b => zchkl 109 b.2.2) = true := by
  have e : zv_b109 = (zv_b109.drop 0).take 5 := rfl
  rw [e]
  simp only [List.all_append, zb_109_0, Bool.and_self]
theorem zb_110_0 : ((zv_b110.drop 0).take 4).all (fun b => zchkl 110 b.2.2) = true := by decide +kernel
theorem zb_110_4 : ((zv_b110.drop 4).take 3).all (fun b => zchkl 110 b.2.2) = true := by decide +kernel
theorem zb_110 : zv_b110.all (fun b => zchkl 110 b.2.2) = true := by
  have e : zv_b110 = (zv_b110.drop 0).take 4 ++ ((zv_b110.drop 4).take 3) := rfl
  rw [e]
  simp only [List.all_append, zb_110_0, zb_110_4, Bool.and_self]
theorem zb_111_0 : ((zv_b111.drop 0).take 2).all (fun b => zchkl 111 b.2.2) = true := by decide +kernel
theorem zb_111_2 : ((zv_b111.drop 2).take 1).all (fun b => zchkl 111 b.2.2) = true := by decide +kernel
theorem zb_111 : zv_b111.all (fun b => zchkl 111 b.2.2) = true := by
  have e : zv_b111 = (zv_b111.drop 0).take 2 ++ ((zv_b111.drop 2).take 1) := rfl
  rw [e]
  simp only [List.all_append, zb_111_0, zb_111_2, Bool.and_self]
theorem zb_112_0 : ((zv_b112.drop 0).take 4).all (fun b => zchkl 112 b.2.2) = true := by decide +kernel
theorem zb_112_4 : ((zv_b112.drop 4).take 8).all (fun b => zchkl 112 b.2.2) = true := by decide +kernel
theorem zb_112_12 : ((zv_b112.drop 12).take 2).all (fun b => zchkl 112 b.2.2) = true := by decide +kernel
theorem zb_112 : zv_b112.all (fun b => zchkl 112 b.2.2) = true := by
  have e : zv_b112 = (zv_b112.drop 0).take 4 ++ ((zv_b112.drop 4).take 8 ++ ((zv_b112.drop 12).take 2)) := rfl
  rw [e]
  simp only [List.all_append, zb_112_0, zb_112_4, zb_112_12, Bool.and_self]
theorem zb_113_0 : ((zv_b113.drop 0).take 1).all (fun b => zchkl 113 b.2.2) = true := by decide +kernel
theorem zb_113 : zv_b113.all (fun b => zchkl 113 b.2.2) = true := by
  have e : zv_b113 = (zv_b113.drop 0).take 1 := rfl
  rw [e]
  simp only [List.all_append, zb_113_0, Bool.and_self]
theorem zb_114_0 : ((zv_b114.drop 0).take 3).all (fun b => zchkl 114 b.2.2) = true := by decide +kernel
theorem zb_114 : zv_b114.all (fun b => zchkl 114 b.2.2) = true := by
  have e : zv_b114 = (zv_b114.drop 0).take 3 := rfl
  rw [e]
  simp only [List.all_append, zb_114_0, Bool.and_self]
theorem zb_115_0 : ((zv_b115.drop 0).take 3).all (fun b => zchkl 115 b.2.2) = true := by decide +kernel
theorem zb_115 : zv_b115.all (fun b => zchkl 115 b.2.2) = true := by
  have e : zv_b115 = (zv_b115.drop 0).take 3 := rfl
  rw [e]
  simp only [List.all_append, zb_115_0, Bool.and_self]
theorem zb_116_0 : ((zv_b116.drop 0).take 1).all (fun b => zchkl 116 b.2.2) = true := by decide +kernel
theorem zb_116_1 : ((zv_b116.drop 1).take 2).all (fun b => zchkl 116 b.2.2) = true := by decide +kernel
theorem zb_116_3 : ((zv_b116.drop 3).take 1).all (fun b => zchkl 116 b.2.2) = true := by decide +kernel
theorem zb_116_4 : ((zv_b116.drop 4).take 4).all (fun b => zchkl 116 b.2.2) = true := by decide +kernel
theorem zb_116 : zv_b116.all (fun b => zchkl 116 b.2.2) = true := by
  have e : zv_b116 = (zv_b116.drop 0).take 1 ++ ((zv_b116.drop 1).take 2 ++ ((zv_b116.drop 3).take 1 ++ ((zv_b116.drop 4).take 4))) := rfl
  rw [e]
  simp only [List.all_append, zb_116_0, zb_116_1, zb_116_3, zb_116_4, Bool.and_self]
theorem zb_117_0 : ((zv_b117.drop 0).take 3).all (fun b => zchkl 117 b.2.2) = true := by decide +kernel
theorem zb_117 : zv_b117.all (fun b => zchkl 117 b.2.2) = true := by
  have e : zv_b117 = (zv_b117.drop 0).take 3 := rfl
  rw [e]
  simp only [List.all_append, zb_117_0, Bool.and_self]
theorem zb_118_0 : ((zv_b118.drop 0).take 3).all (fun b => zchkl 118 b.2.2) = true := by decide +kernel
theorem zb_118 : zv_b118.all (fun b => zchkl 118 b.2.2) = true := by
  have e : zv_b118 = (zv_b118.drop 0).take 3 := rfl
  rw [e]
  simp only [List.all_append, zb_118_0, Bool.and_self]
theorem zb_119_0 : ((zv_b119.drop 0).take 5).all (fun b => zchkl 119 b.2.2) = true := by decide +kernel
theorem zb_119 : zv_b119.all (fun b => zchkl 119 b.2.2) = true := by
  have e : zv_b119 = (zv_b119.drop 0).take 5 := rfl
  rw [e]
  simp only [List.all_append, zb_119_0, Bool.and_self]
theorem zb_120_0 : ((zv_b120.drop 0).take 1).all (fun b => zchkl 120 b.2.2) = true := by decide +kernel
theorem zb_120 : zv_b120.all (fun b => zchkl 120 b.2.2) = true := by
  have e : zv_b120 = (zv_b120.drop 0).take 1 := rfl
  rw [e]
  simp only [List.all_append, zb_120_0, Bool.and_self]
theorem zb_121_0 : ((zv_b121.drop 0).take 3).all (fun b => zchkl 121 b.2.2) = true := by decide +kernel
theorem zb_121 : zv_b121.all (fun b => zchkl 121 b.2.2) = true := by
  have e : zv_b121 = (zv_b121.drop 0).take 3 := rfl
  rw [e]
  simp only [List.all_append, zb_121_0, Bool.and_self]
theorem zb_122_0 : ((zv_b122.drop 0).take 1).all (fun b => zchkl 122 b.2.2) = true := by decide +kernel
theorem zb_122 : zv_b122.all (fun b => zchkl 122 b.2.2) = true := by
  have e : zv_b122 = (zv_b122.drop 0).take 1 := rfl
  rw [e]
  simp only [List.all_append, zb_122_0, Bool.and_self]
theorem zb_123_0 : ((zv_b123.drop 0).take 3).all (fun b => zchkl 123 b.2.2) = true := by decide +kernel
theorem zb_123 : zv_b123.all (fun b => zchkl 123 b.2.2) = true := by
  have e : zv_b123 = (zv_b123.drop 0).take 3 := rfl
  rw [e]
  simp only [List.all_append, zb_123_0, Bool.and_self]
theorem zb_124_0 : ((zv_b124.drop 0).take 3).all (fun b => zchkl 124 b.2.2) = true := by decide +kernel
theorem zb_124 : zv_b124.all (fun b => zchkl 124 b.2.2) = true := by
  have e : zv_b124 = (zv_b124.drop 0).take 3 := rfl
  rw [e]
  simp only [List.all_append, zb_124_0, Bool.and_self]
theorem zb_125_0 : ((zv_b125.drop 0).take 1).all (fun b => zchkl 125 b.2.2) = true := by decide +kernel
theorem zb_125_1 : ((zv_b125.drop 1).take 3).all (fun b => zchkl 125 b.2.2) = true := by decide +kernel
theorem zb_125 : zv_b125.all (fun b => zchkl 125 b.2.2) = true := by
  have e : zv_b125 = (zv_b125.drop 0).take 1 ++ ((zv_b125.drop 1).take 3) := rfl
  rw [e]
  simp only [List.all_append, zb_125_0, zb_125_1, Bool.and_self]
theorem zb_126_0 : ((zv_b126.drop 0).take 5).all (fun b => zchkl 126 b.2.2) = true := by decide +kernel
theorem zb_126 : zv_b126.all (fun b => zchkl 126 b.2.2) = true := by
  have e : zv_b126 = (zv_b126.drop 0).take 5 := rfl
  rw [e]
  simp only [List.all_append, zb_126_0, Bool.and_self]
theorem zb_127_0 : ((zv_b127.drop 0).take 1).all (fun b => zchkl 127 b.2.2) = true := by decide +kernel
theorem zb_127 : zv_b127.all (fun b => zchkl 127 b.2.2) = true := by
  have e : zv_b127 = (zv_b127.drop 0).take 1 := rfl
  rw [e]
  simp only [List.all_append, zb_127_0, Bool.and_self]
theorem zb_128_0 : ((zv_b128.drop 0).take 1).all (fun b => zchkl 128 b.2.2) = true := by decide +kernel
theorem zb_128_1 : ((zv_b128.drop 1).take 2).all (fun b => zchkl 128 b.2.2) = true := by decide +kernel
theorem zb_128_3 : ((zv_b128.drop 3).take 3).all (fun b => zchkl 128 b.2.2) = true := by decide +kernel
theorem zb_128_6 : ((zv_b128.drop 6).take 2).all (fun b => zchkl 128 b.2.2) = true := by decide +kernel
theorem zb_128_8 : ((zv_b128.drop 8).take 1).all (fun b => zchkl 128 b.2.2) = true := by decide +kernel
theorem zb_128 : zv_b128.all (fun b => zchkl 128 b.2.2) = true := by
  have e : zv_b128 = (zv_b128.drop 0).take 1 ++ ((zv_b128.drop 1).take 2 ++ ((zv_b128.drop 3).take 3 ++ ((zv_b128.drop 6).take 2 ++ ((zv_b128.drop 8).take 1)))) := rfl
  rw [e]
  simp only [List.all_append, zb_128_0, zb_128_1, zb_128_3, zb_128_6, zb_128_8, Bool.and_self]
theorem zb_129_0 : ((zv_b129.drop 0).take 3).all (fun b => zchkl 129 b.2.2) = true := by decide +kernel
theorem zb_129_3 : ((zv_b129.drop 3).take 2).all (fun b => zchkl 129 b.2.2) = true := by decide +kernel
theorem zb_129_5 : ((zv_b129.drop 5).take 3).all (fun b => zchkl 129 b.2.2) = true := by decide +kernel
theorem zb_129 : zv_b129.all (fun b => zchkl 129 b.2.2) = true := by
  have e : zv_b129 = (zv_b129.drop 0).take 3 ++ ((zv_b129.drop 3).take 2 ++ ((zv_b129.drop 5).take 3)) := rfl
  rw [e]
  simp only [List.all_append, zb_129_0, zb_129_3, zb_129_5, Bool.and_self]
theorem zb_130_0 : ((zv_b130.drop 0).take 2).all (fun b => zchkl 130 b.2.2) = true := by decide +kernel
theorem zb_130_2 : ((zv_b130.drop 2).take 1).all (fun b => zchkl 130 b.2.2) = true := by decide +kernel
theorem zb_130 : zv_b130.all (fun b => zchkl 130 b.2.2) = true := by
  have e : zv_b130 = (zv_b130.drop 0).take 2 ++ ((zv_b130.drop 2).take 1) := rfl
  rw [e]
  simp only [List.all_append, zb_130_0, zb_130_2, Bool.and_self]
theorem zb_131_0 : ((zv_b131.drop 0).take 1).all (fun b => zchkl 131 b.2.2) = true := by decide +kernel
theorem zb_131 : zv_b131.all (fun b => zchkl 131 b.2.2) = true := by
  have e : zv_b131 = (zv_b131.drop 0).take 1 := rfl
  rw [e]
  simp only [List.all_append, zb_131_0, Bool.and_self]
theorem zb_132_0 : ((zv_b132.drop 0).take 1).all (fun b => zchkl 132 b.2.2) = true := by decide +kernel
theorem zb_132 : zv_b132.all (fun b => zchkl 132 b.2.2) = true := by
  have e : zv_b132 = (zv_b132.drop 0).take 1 := rfl
  rw [e]
  simp only [List.all_append, zb_132_0, Bool.and_self]
theorem zb_133_0 : ((zv_b133.drop 0).take 8).all (fun b => zchkl 133 b.2.2) = true := by decide +kernel
theorem zb_133_8 : ((zv_b133.drop 8).take 7).all (fun b => zchkl 133 b.2.2) = true := by decide +kernel
theorem zb_133 : zv_b133.all (fun b => zchkl 133 b.2.2) = true := by
  have e : zv_b133 = (zv_b133.drop 0).take 8 ++ ((zv_b133.drop 8).take 7) := rfl
  rw [e]
  simp only [List.all_append, zb_133_0, zb_133_8, Bool.and_self]
theorem zb_134_0 : ((zv_b134.drop 0).take 3).all (fun b => zchkl 134 b.2.2) = true := by decide +kernel
theorem zb_134_3 : ((zv_b134.drop 3).take 1).all (fun b => zchkl 134 b.2.2) = true := by decide +kernel
theorem zb_134 : zv_b134.all (fun b => zchkl 134 b.2.2) = true := by
  have e : zv_b134 = (zv_b134.drop 0).take 3 ++ ((zv_b134.drop 3).take 1) := rfl
  rw [e]
  simp only [List.all_append, zb_134_0, zb_134_3, Bool.and_self]
theorem zb_135_0 : ((zv_b135.drop 0).take 1).all (fun b => zchkl 135 b.2.2) = true := by decide +kernel
theorem zb_135 : zv_b135.all (fun b => zchkl 135 b.2.2) = true := by
  have e : zv_b135 = (zv_b135.drop 0).take 1 := rfl
  rw [e]
  simp only [List.all_append, zb_135_0, Bool.and_self]
theorem zb_136_0 : ((zv_b136.drop 0).take 3).all (fun b => zchkl 136 b.2.2) = true := by decide +kernel
theorem zb_136_3 : ((zv_b136.drop 3).take 1).all (fun b => zchkl 136 b.2.2) = true := by decide +kernel
theorem zb_136_4 : ((zv_b136.drop 4).take 1).all (fun b => zchkl 136 b.2.2) = true := by decide +kernel
theorem zb_136 : zv_b136.all (fun b => zchkl 136 b.2.2) = true := by
  have e : zv_b136 = (zv_b136.drop 0).take 3 ++ ((zv_b136.drop 3).take 1 ++ ((zv_b136.drop 4).take 1)) := rfl
  rw [e]
  simp only [List.all_append, zb_136_0, zb_136_3, zb_136_4, Bool.and_self]
theorem zb_137_0 : ((zv_b137.drop 0).take 2).all (fun b => zchkl 137 b.2.2) = true := by decide +kernel
theorem zb_137 : zv_b137.all (fun b => zchkl 137 b.2.2) = true := by
  have e : zv_b137 = (zv_b137.drop 0).take 2 := rfl
  rw [e]
  simp only [List.all_append, zb_137_0, Bool.and_self]
theorem zb_138_0 : ((zv_b138.drop 0).take 5).all (fun b => zchkl 138 b.2.2) = true := by decide +kernel
theorem zb_138_5 : ((zv_b138.drop 5).take 1).all (fun b => zchkl 138 b.2.2) = true := by decide +kernel
theorem zb_138_6 : ((zv_b138.drop 6).take 6).all (fun b => zchkl 138 b.2.2) = true := by decide +kernel
theorem zb_138 : zv_b138.all (fun b => zchkl 138 b.2.2) = true := by
  have e : zv_b138 = (zv_b138.drop 0).take 5 ++ ((zv_b138.drop 5).take 1 ++ ((zv_b138.drop 6).take 6)) := rfl
  rw [e]
  simp only [List.all_append, zb_138_0, zb_138_5, zb_138_6, Bool.and_self]
theorem zb_139_0 : ((zv_b139.drop 0).take 3).all (fun b => zchkl 139 b.2.2) = true := by decide +kernel
theorem zb_139 : zv_b139.all (fun b => zchkl 139 b.2.2) = true := by
  have e : zv_b139 = (zv_b139.drop 0).take 3 := rfl
  rw [e]
  simp only [List.all_append, zb_139_0, Bool.and_self]
theorem zb_140_0 : ((zv_b140.drop 0).take 5).all (fun b => zchkl 140 b.2.2) = true := by decide +kernel
theorem zb_140 : zv_b140.all (fun b => zchkl 140 b.2.2) = true := by
  have e : zv_b140 = (zv_b140.drop 0).take 5 := rfl
  rw [e]
  simp only [List.all_append, zb_140_0, Bool.and_self]
theorem zb_141_0 : ((zv_b141.drop 0).take 4).all (fun b => zchkl 141 b.2.2) = true := by decide +kernel
theorem zb_141_4 : ((zv_b141.drop 4).take 4).all (fun b => zchkl 141 b.2.2) = true := by decide +kernel
theorem zb_141 : zv_b141.all (fun b => zchkl 141 b.2.2) = true := by
  have e : zv_b141 = (zv_b141.drop 0).take 4 ++ ((zv_b141.drop 4).take 4) := rfl
  rw [e]
  simp only [List.all_append, zb_141_0, zb_141_4, Bool.and_self]
theorem zb_142_0 : ((zv_b142.drop 0).take 7).all (fun b => zchkl 142 b.2.2) = true := by decide +kernel
theorem zb_142_7 : ((zv_b142.drop 7).take 2).all (fun b => zchkl 142 b.2.2) = true := by decide +kernel
theorem zb_142 : zv_b142.all (fun b => zchkl 142 b.2.2) = true := by
  have e : zv_b142 = (zv_b142.drop 0).take 7 ++ ((zv_b142.drop 7).take 2) := rfl
  rw [e]
  simp only [List.all_append, zb_142_0, zb_142_7, Bool.and_self]
theorem zb_143_0 : ((zv_b143.drop 0).take 2).all (fun b => zchkl 143 b.2.2) = true := by decide +kernel
theorem zb_143 : zv_b143.all (fun b => zchkl 143 b.2.2) = true := by
  have e : zv_b143 = (zv_b143.drop 0).take 2 := rfl
  rw [e]
  simp only [List.all_append, zb_143_0, Bool.and_self]
theorem zb_144_0 : ((zv_b144.drop 0).take 3).all (fun b => zchkl 144 b.2.2) = true := by decide +kernel
theorem zb_144 : zv_b144.all (fun b => zchkl 144 b.2.2) = true := by
  have e : zv_b144 = (zv_b144.drop 0).take 3 := rfl
  rw [e]
  simp only [List.all_append, zb_144_0, Bool.and_self]
theorem zb_145_0 : ((zv_b145.drop 0).take 4).all (fun b => zchkl 145 b.2.2) = true := by decide +kernel
theorem zb_145 : zv_b145.all (fun b => zchkl 145 b.2.2) = true := by
  have e : zv_b145 = (zv_b145.drop 0).take 4 := rfl
  rw [e]
  simp only [List.all_append, zb_145_0, Bool.and_self]
theorem zb_146_0 : ((zv_b146.drop 0).take 1).all (fun b => zchkl 146 b.2.2) = true := by decide +kernel
theorem zb_146 : zv_b146.all (fun b => zchkl 146 b.2.2) = true := by
  have e : zv_b146 = (zv_b146.drop 0).take 1 := rfl
  rw [e]
  simp only [List.all_append, zb_146_0, Bool.and_self]
theorem zb_147_0 : ((zv_b147.drop 0).take 6).all (fun b => zchkl 147 b.2.2) = true := by decide +kernel
theorem zb_147_6 : ((zv_b147.drop 6).take 1).all (fun b => zchkl 147 b.2.2) = true := by decide +kernel
theorem zb_147 : zv_b147.all (fun b => zchkl 147 b.2.2) = true := by
  have e : zv_b147 = (zv_b147.drop 0).take 6 ++ ((zv_b147.drop 6).take 1) := rfl
  rw [e]
  simp only [List.all_append, zb_147_0, zb_147_6, Bool.and_self]
theorem zb_148_0 : ((zv_b148.drop 0).take 8).all (fun b => zchkl 148 b.2.2) = true := by decide +kernel
theorem zb_148 : zv_b148.all (fun b => zchkl 148 b.2.2) = true := by
  have e : zv_b148 = (zv_b148.drop 0).take 8 := rfl
  rw [e]
  simp only [List.all_append, zb_148_0, Bool.and_self]
theorem zb_149_0 : ((zv_b149.drop 0).take 4).all (fun b => zchkl 149 b.2.2) = true := by decide +kernel
theorem zb_149_4 : ((zv_b149.drop 4).take 5).all (fun b => zchkl 149 b.2.2) = true := by decide +kernel
theorem zb_149_9 : ((zv_b149.drop 9).take 2).all (fun b => zchkl 149 b.2.2) = true := by decide +kernel
theorem zb_149_11 : ((zv_b149.drop 11).take 3).all (fun b => zchkl 149 b.2.2) = true := by decide +kernel
theorem zb_149_14 : ((zv_b149.drop 14).take 8).all (fun b => zchkl 149 b.2.2) = true := by decide +kernel
theorem zb_149 : zv_b149.all (fun b => zchkl 149 b.2.2) = true := by
  have e : zv_b149 = (zv_b149.drop 0).take 4 ++ ((zv_b149.drop 4).take 5 ++ ((zv_b149.drop 9).take 2 ++ ((zv_b149.drop 11).take 3 ++ ((zv_b149.drop 14).take 8)))) := rfl
  rw [e]
  simp only [List.all_append, zb_149_0, zb_149_4, zb_149_9, zb_149_11, zb_149_14, Bool.and_self]
