/-! every block of every method is checked by the kernel -/
theorem zb_150_0 : ((zv_b150.drop 0).take 1).all (zchkb 150) = true := by decide +kernel
theorem zb_150 : zv_b150.all (zchkb 150) = true := by
  have e : zv_b150 = (zv_b150.drop 0).take 1 := rfl
  rw [e]
  simp only [List.all_append, zb_150_0, Bool.and_self]
theorem zb_151_0 : ((zv_b151.drop 0).take 3).all (zchkb 151) = true := by decide +kernel
theorem zb_151 : zv_b151.all (zchkb 151) = true := by
  have e : zv_b151 = (zv_b151.drop 0).take 3 := rfl
  rw [e]
  simp only [List.all_append, zb_151_0, Bool.and_self]
theorem zb_152_0 : ((zv_b152.drop 0).take 3).all (zchkb 152) = true := by decide +kernel
theorem zb_152 : zv_b152.all (zchkb 152) = true := by
  have e : zv_b152 = (zv_b152.drop 0).take 3 := rfl
  rw [e]
  simp only [List.all_append, zb_152_0, Bool.and_self]
theorem zb_153_0 : ((zv_b153.drop 0).take 5).all (zchkb 153) = true := by decide +kernel
theorem zb_153_5 : ((zv_b153.drop 5).take 2).all (zchkb 153) = true := by decide +kernel
theorem zb_153 : zv_b153.all (zchkb 153) = true := by
  have e : zv_b153 = (zv_b153.drop 0).take 5 ++ ((zv_b153.drop 5).take 2) := rfl
  rw [e]
  simp only [List.all_append, zb_153_0, zb_153_5, Bool.and_self]
theorem zb_154_0 : ((zv_b154.drop 0).take 3).all (zchkb 154) = true := by decide +kernel
theorem zb_154_3 : ((zv_b154.drop 3).take 3).all (zchkb 154) = true := by decide +kernel
theorem zb_154_6 : ((zv_b154.drop 6).take 2).all (zchkb 154) = true := by decide +kernel
theorem zb_154 : zv_b154.all (zchkb 154) = true := by
  have e : zv_b154 = (zv_b154.drop 0).take 3 ++ ((zv_b154.drop 3).take 3 ++ ((zv_b154.drop 6).take 2)) := rfl
  rw [e]
  simp only [List.all_append, zb_154_0, zb_154_3, zb_154_6, Bool.and_self]
theorem zb_155_0 : ((zv_b155.drop 0).take 3).all (zchkb 155) = true := by decide +kernel
theorem zb_155_3 : ((zv_b155.drop 3).take 6).all (zchkb 155) = true := by decide +kernel
theorem zb_155_9 : ((zv_b155.drop 9).take 4).all (zchkb 155) = true := by decide +kernel
theorem zb_155 : zv_b155.all (zchkb 155) = true := by
  have e : zv_b155 = (zv_b155.drop 0).take 3 ++ ((zv_b155.drop 3).take 6 ++ ((zv_b155.drop 9).take 4)) := rfl
  rw [e]
  simp only [List.all_append, zb_155_0, zb_155_3, zb_155_9, Bool.and_self]
theorem zb_156_0 : ((zv_b156.drop 0).take 4).all (zchkb 156) = true := by decide +kernel
theorem zb_156_4 : ((zv_b156.drop 4).take 6).all (zchkb 156) = true := by decide +kernel
theorem zb_156 : zv_b156.all (zchkb 156) = true := by
  have e : zv_b156 = (zv_b156.drop 0).take 4 ++ ((zv_b156.drop 4).take 6) := rfl
  rw [e]
  simp only [List.all_append, zb_156_0, zb_156_4, Bool.and_self]
theorem zb_157_0 : ((zv_b157.drop 0).take 4).all (zchkb 157) = true := by decide +kernel
theorem zb_157 : zv_b157.all (zchkb 157) = true := by
  have e : zv_b157 = (zv_b157.drop 0).take 4 := rfl
  rw [e]
  simp only [List.all_append, zb_157_0, Bool.and_self]
theorem zb_158_0 : ((zv_b158.drop 0).take 5).all (zchkb 158) = true := by decide +kernel
theorem zb_158 : zv_b158.all (zchkb 158) = true := by
  have e : zv_b158 = (zv_b158.drop 0).take 5 := rfl
  rw [e]
  simp only [List.all_append, zb_158_0, Bool.and_self]
theorem zb_159_0 : ((zv_b159.drop 0).take 1).all (zchkb 159) = true := by decide +kernel
theorem zb_159_1 : ((zv_b159.drop 1).take 1).all (zchkb 159) = true := by decide +kernel
theorem zb_159_2 : ((zv_b159.drop 2).take 5).all (zchkb 159) = true := by decide +kernel
theorem zb_159_7 : ((zv_b159.drop 7).take 1).all (zchkb 159) = true := by decide +kernel
theorem zb_159 : zv_b159.all (zchkb 159) = true := by
  have e : zv_b159 = (zv_b159.drop 0).take 1 ++ ((zv_b159.drop 1).take 1 ++ ((zv_b159.drop 2).take 5 ++ ((zv_b159.drop 7).take 1))) := rfl
  rw [e]
  simp only [List.all_append, zb_159_0, zb_159_1, zb_159_2, zb_159_7, Bool.and_self]
theorem zb_160_0 : ((zv_b160.drop 0).take 3).all (zchkb 160) = true := by decide +kernel
theorem zb_160_3 : ((zv_b160.drop 3).take 3).all (zchkb 160) = true := by decide +kernel
theorem zb_160_6 : ((zv_b160.drop 6).take 5).all (zchkb 160) = true := by decide +kernel
theorem zb_160_11 : ((zv_b160.drop 11).take 3).all (zchkb 160) = true := by decide +kernel
theorem zb_160 : zv_b160.all (zchkb 160) = true := by
  have e : zv_b160 = (zv_b160.drop 0).take 3 ++ ((zv_b160.drop 3).take 3 ++ ((zv_b160.drop 6).take 5 ++ ((zv_b160.drop 11).take 3))) := rfl
  rw [e]
  simp only [List.all_append, zb_160_0, zb_160_3, zb_160_6, zb_160_11, Bool.and_self]
theorem zb_161_0 : ((zv_b161.drop 0).take 3).all (zchkb 161) = true := by decide +kernel
theorem zb_161_3 : ((zv_b161.drop 3).take 3).all (zchkb 161) = true := by decide +kernel
theorem zb_161_6 : ((zv_b161.drop 6).take 1).all (zchkb 161) = true := by decide +kernel
theorem zb_161_7 : ((zv_b161.drop 7).take 3).all (zchkb 161) = true := by decide +kernel
theorem zb_161 : zv_b161.all (zchkb 161) = true := by
  have e : zv_b161 = (zv_b161.drop 0).take 3 ++ ((zv_b161.drop 3).take 3 ++ ((zv_b161.drop 6).take 1 ++ ((zv_b161.drop 7).take 3))) := rfl
  rw [e]
  simp only [List.all_append, zb_161_0, zb_161_3, zb_161_6, zb_161_7, Bool.and_self]
theorem zb_162_0 : ((zv_b162.drop 0).take 3).all (zchkb 162) = true := by decide +kernel
theorem zb_162 : zv_b162.all (zchkb 162) = true := by
  have e : zv_b162 = (zv_b162.drop 0).take 3 := rfl
  rw [e]
  simp only [List.all_append, zb_162_0, Bool.and_self]
theorem zb_163_0 : ((zv_b163.drop 0).take 3).all (zchkb 163) = true := by decide +kernel
theorem zb_163 : zv_b163.all (zchkb 163) = true := by
  have e : zv_b163 = (zv_b163.drop 0).take 3 := rfl
  rw [e]
  simp only [List.all_append, zb_163_0, Bool.and_self]
theorem zb_164_0 : ((zv_b164.drop 0).take 1).all (zchkb 164) = true := by decide +kernel
theorem zb_164_1 : ((zv_b164.drop 1).take 1).all (zchkb 164) = true := by decide +kernel
theorem zb_164_2 : ((zv_b164.drop 2).take 6).all (zchkb 164) = true := by decide +kernel
theorem zb_164 : zv_b164.all (zchkb 164) = true := by
  have e : zv_b164 = (zv_b164.drop 0).take 1 ++ ((zv_b164.drop 1).take 1 ++ ((zv_b164.drop 2).take 6)) := rfl
  rw [e]
  simp only [List.all_append, zb_164_0, zb_164_1, zb_164_2, Bool.and_self]
theorem zb_165_0 : ((zv_b165.drop 0).take 3).all (zchkb 165) = true := by decide +kernel
theorem zb_165 : zv_b165.all (zchkb 165) = true := by
  have e : zv_b165 = (zv_b165.drop 0).take 3 := rfl
  rw [e]
  simp only [List.all_append, zb_165_0, Bool.and_self]
theorem zb_166_0 : ((zv_b166.drop 0).take 5).all (zchkb 166) = true := by decide +kernel
theorem zb_166_5 : ((zv_b166.drop 5).take 3).all (zchkb 166) = true := by decide +kernel
theorem zb_166 : zv_b166.all (zchkb 166) = true := by
  have e : zv_b166 = (zv_b166.drop 0).take 5 ++ ((zv_b166.drop 5).take 3) := rfl
  rw [e]
  simp only [List.all_append, zb_166_0, zb_166_5, Bool.and_self]
theorem zb_167_0 : ((zv_b167.drop 0).take 3).all (zchkb 167) = true := by decide +kernel
theorem zb_167 : zv_b167.all (zchkb 167) = true := by
  have e : zv_b167 = (zv_b167.drop 0).take 3 := rfl
  rw [e]
  simp only [List.all_append, zb_167_0, Bool.and_self]
theorem zb_168_0 : ((zv_b168.drop 0).take 3).all (zchkb 168) = true := by decide +kernel
theorem zb_168_3 : ((zv_b168.drop 3).take 6).all (zchkb 168) = true := by decide +kernel
theorem zb_168 : zv_b168.all (zchkb 168) = true := by
  have e : zv_b168 = (zv_b168.drop 0).take 3 ++ ((zv_b168.drop 3).take 6) := rfl
  rw [e]
  simp only [List.all_append, zb_168_0, zb_168_3, Bool.and_self]
theorem zb_169_0 : ((zv_b169.drop 0).take 1).all (zchkb 169) = true := by decide +kernel
theorem zb_169_1 : ((zv_b169.drop 1).take 2).all (zchkb 169) = true := by decide +kernel
theorem zb_169_3 : ((zv_b169.drop 3).take 6).all (zchkb 169) = true := by decide +kernel
theorem zb_169 : zv_b169.all (zchkb 169) = true := by
  have e : zv_b169 = (zv_b169.drop 0).take 1 ++ ((zv_b169.drop 1).take 2 ++ ((zv_b169.drop 3).take 6)) := rfl
  rw [e]
  simp only [List.all_append, zb_169_0, zb_169_1, zb_169_3, Bool.and_self]
theorem zb_170_0 : ((zv_b170.drop 0).take 4).all (zchkb 170) = true := by decide +kernel
theorem zb_170_4 : ((zv_b170.drop 4).take 1).all (zchkb 170) = true := by decide +kernel
theorem zb_170 : zv_b170.all (zchkb 170) = true := by
  have e : zv_b170 = (zv_b170.drop 0).take 4 ++ ((zv_b170.drop 4).take 1) := rfl
  rw [e]
  simp only [List.all_append, zb_170_0, zb_170_4, Bool.and_self]
theorem zb_171_0 : ((zv_b171.drop 0).take 3).all (zchkb 171) = true := by decide +kernel
theorem zb_171 : zv_b171.all (zchkb 171) = true := by
  have e : zv_b171 = (zv_b171.drop 0).take 3 := rfl
  rw [e]
  simp only [List.all_append, zb_171_0, Bool.and_self]
theorem zb_172_0 : ((zv_b172.drop 0).take 3).all (zchkb 172) = true := by decide +kernel
theorem zb_172_3 : ((zv_b172.drop 3).take 2).all (zchkb 172) = true := by decide +kernel
theorem zb_172_5 : ((zv_b172.drop 5).take 2).all (zchkb 172) = true := by decide +kernel
theorem zb_172_7 : ((zv_b172.drop 7).take 2).all (zchkb 172) = true := by decide +kernel
theorem zb_172_9 : ((zv_b172.drop 9).take 2).all (zchkb 172) = true := by decide +kernel
theorem zb_172 : zv_b172.all (zchkb 172) = true := by
  have e : zv_b172 = (zv_b172.drop 0).take 3 ++ ((zv_b172.drop 3).take 2 ++ ((zv_b172.drop 5).take 2 ++ ((zv_b172.drop 7).take 2 ++ ((zv_b172.drop 9).take 2)))) := rfl
  rw [e]
  simp only [List.all_append, zb_172_0, zb_172_3, zb_172_5, zb_172_7, zb_172_9, Bool.and_self]
theorem zb_173_0 : ((zv_b173.drop 0).take 3).all (zchkb 173) = true := by decide +kernel
theorem zb_173_3 : ((zv_b173.drop 3).take 3).all (zchkb 173) = true := by decide +kernel
theorem zb_173_6 : ((zv_b173.drop 6).take 6).all (zchkb 173) = true := by decide +kernel
theorem zb_173 : zv_b173.all (zchkb 173) = true := by
  have e : zv_b173 = (zv_b173.drop 0).take 3 ++ ((zv_b173.drop 3).take 3 ++ ((zv_b173.drop 6).take 6)) := rfl
  rw [e]
  simp only [List.all_append, zb_173_0, zb_173_3, zb_173_6, Bool.and_self]
theorem zb_174_0 : ((zv_b174.drop 0).take 4).all (zchkb 174) = true := by decide +kernel
theorem zb_174_4 : ((zv_b174.drop 4).take 3).all (zchkb 174) = true := by decide +kernel
theorem zb_174_7 : ((zv_b174.drop 7).take 6).all (zchkb 174) = true := by decide +kernel
theorem zb_174 : zv_b174.all (zchkb 174) = true := by
  have e : zv_b174 = (zv_b174.drop 0).take 4 ++ ((zv_b174.drop 4).take 3 ++ ((zv_b174.drop 7).take 6)) := rfl
  rw [e]
  simp only [List.all_append, zb_174_0, zb_174_4, zb_174_7, Bool.and_self]
theorem zb_175_0 : ((zv_b175.drop 0).take 5).all (zchkb 175) = true := by decide +kernel
theorem zb_175_5 : ((zv_b175.drop 5).take 2).all (zchkb 175) = true := by decide +kernel
theorem zb_175 : zv_b175.all (zchkb 175) = true := by
  have e : zv_b175 = (zv_b175.drop 0).take 5 ++ ((zv_b175.drop 5).take 2) := rfl
  rw [e]
  simp only [List.all_append, zb_175_0, zb_175_5, Bool.and_self]
theorem zb_176_0 : ((zv_b176.drop 0).take 1).all (zchkb 176) = true := by decide +kernel
theorem zb_176 : zv_b176.all (zchkb 176) = true := by
  have e : zv_b176 = (zv_b176.drop 0).take 1 := rfl
  rw [e]
  simp only [List.all_append, zb_176_0, Bool.and_self]
theorem zb_177_0 : ((zv_b177.drop 0).take 3).all (zchkb 177) = true := by decide +kernel
theorem zb_177 : zv_b177.all (zchkb 177) = true := by
  have e : zv_b177 = (zv_b177.drop 0).take 3 := rfl
  rw [e]
  simp only [List.all_append, zb_177_0, Bool.and_self]
theorem zb_178_0 : ((zv_b178.drop 0).take 4).all (zchkb 178) = true := by decide +kernel
theorem zb_178_4 : ((zv_b178.drop 4).take 5).all (zchkb 178) = true := by decide +kernel
theorem zb_178_9 : ((zv_b178.drop 9).take 6).all (zchkb 178) = true := by decide +kernel
theorem zb_178_15 : ((zv_b178.drop 15).take 6).all (zchkb 178) = true := by decide +kernel
theorem zb_178_21 : ((zv_b178.drop 21).take 5).all (zchkb 178) = true := by decide +kernel
theorem zb_178_26 : ((zv_b178.drop 26).take 3).all (zchkb 178) = true := by decide +kernel
theorem zb_178 : zv_b178.all (zchkb 178) = true := by
  have e : zv_b178 = (zv_b178.drop 0).take 4 ++ ((zv_b178.drop 4).take 5 ++ ((zv_b178.drop 9).take 6 ++ ((zv_b178.drop 15).take 6 ++ ((zv_b178.drop 21).take 5 ++ ((zv_b178.drop 26).take 3))))) := rfl
  rw [e]
  simp only [List.all_append, zb_178_0, zb_178_4, zb_178_9, zb_178_15, zb_178_21, zb_178_26, Bool.and_self]
theorem zb_179_0 : ((zv_b179.drop 0).take 3).all (zchkb 179) = true := by decide +kernel
theorem zb_179 : zv_b179.all (zchkb 179) = true := by
  have e : zv_b179 = (zv_b179.drop 0).take 3 := rfl
  rw [e]
  simp only [List.all_append, zb_179_0, Bool.and_self]
theorem zb_180_0 : ((zv_b180.drop 0).take 4).all (zchkb 180) = true := by decide +kernel
theorem zb_180_4 : ((zv_b180.drop 4).take 2).all (zchkb 180) = true := by decide +kernel
theorem zb_180_6 : ((zv_b180.drop 6).take 1).all (zchkb 180) = true := by decide +kernel
theorem zb_180 : zv_b180.all (zchkb 180) = true := by
  have e : zv_b180 = (zv_b180.drop 0).take 4 ++ ((zv_b180.drop 4).take 2 ++ ((zv_b180.drop 6).take 1)) := rfl
  rw [e]
  simp only [List.all_append, zb_180_0, zb_180_4, zb_180_6, Bool.and_self]
theorem zb_181_0 : ((zv_b181.drop 0).take 3).all (zchkb 181) = true := by decide +kernel
theorem zb_181_3 : ((zv_b181.drop 3).take 3).all (zchkb 181) = true := by decide +kernel
theorem zb_181_6 : ((zv_b181.drop 6).take 6).all (zchkb 181) = true := by decide +kernel
theorem zb_181 : zv_b181.all (zchkb 181) = true := by
  have e : zv_b181 = (zv_b181.drop 0).take 3 ++ ((zv_b181.drop 3).take 3 ++ ((zv_b181.drop 6).take 6)) := rfl
  rw [e]
  simp only [List.all_append, zb_181_0, zb_181_3, zb_181_6, Bool.and_self]
theorem zb_182_0 : ((zv_b182.drop 0).take 1).all (zchkb 182) = true := by decide +kernel
theorem zb_182 : zv_b182.all (zchkb 182) = true := by
  have e : zv_b182 = (zv_b182.drop 0).take 1 := rfl
  rw [e]
  simp only [List.all_append, zb_182_0, Bool.and_self]
