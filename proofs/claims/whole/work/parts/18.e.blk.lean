/-! every block of every method is checked by the kernel -/
theorem zb_183_0 : ((zv_b183.drop 0).take 4).all (zchkb 183) = true := by decide +kernel
theorem zb_183_4 : ((zv_b183.drop 4).take 5).all (zchkb 183) = true := by decide +kernel
theorem zb_183_9 : ((zv_b183.drop 9).take 5).all (zchkb 183) = true := by decide +kernel
theorem zb_183 : zv_b183.all (zchkb 183) = true := by
  have e : zv_b183 = (zv_b183.drop 0).take 4 ++ ((zv_b183.drop 4).take 5 ++ ((zv_b183.drop 9).take 5)) := rfl
  rw [e]
  simp only [List.all_append, zb_183_0, zb_183_4, zb_183_9, Bool.and_self]
theorem zb_184_0 : ((zv_b184.drop 0).take 3).all (zchkb 184) = true := by decide +kernel
theorem zb_184_3 : ((zv_b184.drop 3).take 3).all (zchkb 184) = true := by decide +kernel
theorem zb_184_6 : ((zv_b184.drop 6).take 4).all (zchkb 184) = true := by decide +kernel
theorem zb_184 : zv_b184.all (zchkb 184) = true := by
  have e : zv_b184 = (zv_b184.drop 0).take 3 ++ ((zv_b184.drop 3).take 3 ++ ((zv_b184.drop 6).take 4)) := rfl
  rw [e]
  simp only [List.all_append, zb_184_0, zb_184_3, zb_184_6, Bool.and_self]
theorem zb_185_0 : ((zv_b185.drop 0).take 1).all (zchkb 185) = true := by decide +kernel
theorem zb_185 : zv_b185.all (zchkb 185) = true := by
  have e : zv_b185 = (zv_b185.drop 0).take 1 := rfl
  rw [e]
  simp only [List.all_append, zb_185_0, Bool.and_self]
theorem zb_186_0 : ((zv_b186.drop 0).take 3).all (zchkb 186) = true := by decide +kernel
theorem zb_186_3 : ((zv_b186.drop 3).take 4).all (zchkb 186) = true := by decide +kernel
theorem zb_186 : zv_b186.all (zchkb 186) = true := by
  have e : zv_b186 = (zv_b186.drop 0).take 3 ++ ((zv_b186.drop 3).take 4) := rfl
  rw [e]
  simp only [List.all_append, zb_186_0, zb_186_3, Bool.and_self]
theorem zb_187_0 : ((zv_b187.drop 0).take 2).all (zchkb 187) = true := by decide +kernel
theorem zb_187_2 : ((zv_b187.drop 2).take 1).all (zchkb 187) = true := by decide +kernel
theorem zb_187 : zv_b187.all (zchkb 187) = true := by
  have e : zv_b187 = (zv_b187.drop 0).take 2 ++ ((zv_b187.drop 2).take 1) := rfl
  rw [e]
  simp only [List.all_append, zb_187_0, zb_187_2, Bool.and_self]
theorem zb_188_0 : ((zv_b188.drop 0).take 2).all (zchkb 188) = true := by decide +kernel
theorem zb_188_2 : ((zv_b188.drop 2).take 1).all (zchkb 188) = true := by decide +kernel
theorem zb_188 : zv_b188.all (zchkb 188) = true := by
  have e : zv_b188 = (zv_b188.drop 0).take 2 ++ ((zv_b188.drop 2).take 1) := rfl
  rw [e]
  simp only [List.all_append, zb_188_0, zb_188_2, Bool.and_self]
theorem zb_189_0 : ((zv_b189.drop 0).take 5).all (zchkb 189) = true := by decide +kernel
theorem zb_189_5 : ((zv_b189.drop 5).take 2).all (zchkb 189) = true := by decide +kernel
theorem zb_189 : zv_b189.all (zchkb 189) = true := by
  have e : zv_b189 = (zv_b189.drop 0).take 5 ++ ((zv_b189.drop 5).take 2) := rfl
  rw [e]
  simp only [List.all_append, zb_189_0, zb_189_5, Bool.and_self]
theorem zb_190_0 : ((zv_b190.drop 0).take 2).all (zchkb 190) = true := by decide +kernel
theorem zb_190_2 : ((zv_b190.drop 2).take 7).all (zchkb 190) = true := by decide +kernel
theorem zb_190_9 : ((zv_b190.drop 9).take 3).all (zchkb 190) = true := by decide +kernel
theorem zb_190_12 : ((zv_b190.drop 12).take 1).all (zchkb 190) = true := by decide +kernel
theorem zb_190 : zv_b190.all (zchkb 190) = true := by
  have e : zv_b190 = (zv_b190.drop 0).take 2 ++ ((zv_b190.drop 2).take 7 ++ ((zv_b190.drop 9).take 3 ++ ((zv_b190.drop 12).take 1))) := rfl
  rw [e]
  simp only [List.all_append, zb_190_0, zb_190_2, zb_190_9, zb_190_12, Bool.and_self]
theorem zb_191_0 : ((zv_b191.drop 0).take 4).all (zchkb 191) = true := by decide +kernel
theorem zb_191_4 : ((zv_b191.drop 4).take 1).all (zchkb 191) = true := by decide +kernel
theorem zb_191_5 : ((zv_b191.drop 5).take 3).all (zchkb 191) = true := by decide +kernel
theorem zb_191 : zv_b191.all (zchkb 191) = true := by
  have e : zv_b191 = (zv_b191.drop 0).take 4 ++ ((zv_b191.drop 4).take 1 ++ ((zv_b191.drop 5).take 3)) := rfl
  rw [e]
  simp only [List.all_append, zb_191_0, zb_191_4, zb_191_5, Bool.and_self]
theorem zb_192_0 : ((zv_b192.drop 0).take 4).all (zchkb 192) = true := by decide +kernel
theorem zb_192_4 : ((zv_b192.drop 4).take 3).all (zchkb 192) = true := by decide +kernel
theorem zb_192 : zv_b192.all (zchkb 192) = true := by
  have e : zv_b192 = (zv_b192.drop 0).take 4 ++ ((zv_b192.drop 4).take 3) := rfl
  rw [e]
  simp only [List.all_append, zb_192_0, zb_192_4, Bool.and_self]
theorem zb_193_0 : ((zv_b193.drop 0).take 6).all (zchkb 193) = true := by decide +kernel
theorem zb_193 : zv_b193.all (zchkb 193) = true := by
  have e : zv_b193 = (zv_b193.drop 0).take 6 := rfl
  rw [e]
  simp only [List.all_append, zb_193_0, Bool.and_self]
theorem zb_194_0 : ((zv_b194.drop 0).take 9).all (zchkb 194) = true := by decide +kernel
theorem zb_194_9 : ((zv_b194.drop 9).take 4).all (zchkb 194) = true := by decide +kernel
theorem zb_194_13 : ((zv_b194.drop 13).take 3).all (zchkb 194) = true := by decide +kernel
theorem zb_194 : zv_b194.all (zchkb 194) = true := by
  have e : zv_b194 = (zv_b194.drop 0).take 9 ++ ((zv_b194.drop 9).take 4 ++ ((zv_b194.drop 13).take 3)) := rfl
  rw [e]
  simp only [List.all_append, zb_194_0, zb_194_9, zb_194_13, Bool.and_self]
theorem zb_195_0 : ((zv_b195.drop 0).take 2).all (zchkb 195) = true := by decide +kernel
theorem zb_195 : zv_b195.all (zchkb 195) = true := by
  have e : zv_b195 = (zv_b195.drop 0).take 2 := rfl
  rw [e]
  simp only [List.all_append, zb_195_0, Bool.and_self]
theorem zb_196_0 : ((zv_b196.drop 0).take 3).all (zchkb 196) = true := by decide +kernel
theorem zb_196 : zv_b196.all (zchkb 196) = true := by
  have e : zv_b196 = (zv_b196.drop 0).take 3 := rfl
  rw [e]
  simp only [List.all_append, zb_196_0, Bool.and_self]
theorem zb_197_0 : ((zv_b197.drop 0).take 3).all (zchkb 197) = true := by decide +kernel
theorem zb_197 : zv_b197.all (zchkb 197) = true := by
  have e : zv_b197 = (zv_b197.drop 0).take 3 := rfl
  rw [e]
  simp only [List.all_append, zb_197_0, Bool.and_self]
theorem zb_198_0 : ((zv_b198.drop 0).take 3).all (zchkb 198) = true := by decide +kernel
theorem zb_198 : zv_b198.all (zchkb 198) = true := by
  have e : zv_b198 = (zv_b198.drop 0).take 3 := rfl
  rw [e]
  simp only [List.all_append, zb_198_0, Bool.and_self]
theorem zb_199_0 : ((zv_b199.drop 0).take 3).all (zchkb 199) = true := by decide +kernel
theorem zb_199 : zv_b199.all (zchkb 199) = true := by
  have e : zv_b199 = (zv_b199.drop 0).take 3 := rfl
  rw [e]
  simp only [List.all_append, zb_199_0, Bool.and_self]
theorem zb_200_0 : ((zv_b200.drop 0).take 3).all (zchkb 200) = true := by decide +kernel
theorem zb_200 : zv_b200.all (zchkb 200) = true := by
  have e : zv_b200 = (zv_b200.drop 0).take 3 := rfl
  rw [e]
  simp only [List.all_append, zb_200_0, Bool.and_self]
theorem zb_201_0 : ((zv_b201.drop 0).take 1).all (zchkb 201) = true := by decide +kernel
theorem zb_201 : zv_b201.all (zchkb 201) = true := by
  have e : zv_b201 = (zv_b201.drop 0).take 1 := rfl
  rw [e]
  simp only [List.all_append, zb_201_0, Bool.and_self]
theorem zb_202_0 : ((zv_b202.drop 0).take 2).all (zchkb 202) = true := by decide +kernel
theorem zb_202 : zv_b202.all (zchkb 202) = true := by
  have e : zv_b202 = (zv_b202.drop 0).take 2 := rfl
  rw [e]
  simp only [List.all_append, zb_202_0, Bool.and_self]
theorem zb_203_0 : ((zv_b203.drop 0).take 3).all (zchkb 203) = true := by decide +kernel
theorem zb_203 : zv_b203.all (zchkb 203) = true := by
  have e : zv_b203 = (zv_b203.drop 0).take 3 := rfl
  rw [e]
  simp only [List.all_append, zb_203_0, Bool.and_self]
theorem zb_204_0 : ((zv_b204.drop 0).take 3).all (zchkb 204) = true := by decide +kernel
theorem zb_204 : zv_b204.all (zchkb 204) = true := by
  have e : zv_b204 = (zv_b204.drop 0).take 3 := rfl
  rw [e]
  simp only [List.all_append, zb_204_0, Bool.and_self]
theorem zb_205_0 : ((zv_b205.drop 0).take 1).all (zchkb 205) = true := by decide +kernel
theorem zb_205 : zv_b205.all (zchkb 205) = true := by
  have e : zv_b205 = (zv_b205.drop 0).take 1 := rfl
  rw [e]
  simp only [List.all_append, zb_205_0, Bool.and_self]
theorem zb_206_0 : ((zv_b206.drop 0).take 1).all (zchkb 206) = true := by decide +kernel
theorem zb_206 : zv_b206.all (zchkb 206) = true := by
  have e : zv_b206 = (zv_b206.drop 0).take 1 := rfl
  rw [e]
  simp only [List.all_append, zb_206_0, Bool.and_self]
theorem zb_207_0 : ((zv_b207.drop 0).take 3).all (zchkb 207) = true := by decide +kernel
theorem zb_207 : zv_b207.all (zchkb 207) = true := by
  have e : zv_b207 = (zv_b207.drop 0).take 3 := rfl
  rw [e]
  simp only [List.all_append, zb_207_0, Bool.and_self]
theorem zb_208_0 : ((zv_b208.drop 0).take 3).all (zchkb 208) = true := by decide +kernel
theorem zb_208 : zv_b208.all (zchkb 208) = true := by
  have e : zv_b208 = (zv_b208.drop 0).take 3 := rfl
  rw [e]
  simp only [List.all_append, zb_208_0, Bool.and_self]
theorem zb_209_0 : ((zv_b209.drop 0).take 2).all (zchkb 209) = true := by decide +kernel
theorem zb_209_2 : ((zv_b209.drop 2).take 1).all (zchkb 209) = true := by decide +kernel
theorem zb_209_3 : ((zv_b209.drop 3).take 2).all (zchkb 209) = true := by decide +kernel
theorem zb_209_5 : ((zv_b209.drop 5).take 1).all (zchkb 209) = true := by decide +kernel
theorem zb_209_6 : ((zv_b209.drop 6).take 1).all (zchkb 209) = true := by decide +kernel
theorem zb_209_7 : ((zv_b209.drop 7).take 2).all (zchkb 209) = true := by decide +kernel
theorem zb_209_9 : ((zv_b209.drop 9).take 6).all (zchkb 209) = true := by decide +kernel
theorem zb_209_15 : ((zv_b209.drop 15).take 2).all (zchkb 209) = true := by decide +kernel
theorem zb_209_17 : ((zv_b209.drop 17).take 1).all (zchkb 209) = true := by decide +kernel
theorem zb_209_18 : ((zv_b209.drop 18).take 1).all (zchkb 209) = true := by decide +kernel
theorem zb_209_19 : ((zv_b209.drop 19).take 1).all (zchkb 209) = true := by decide +kernel
theorem zb_209_20 : ((zv_b209.drop 20).take 1).all (zchkb 209) = true := by decide +kernel
theorem zb_209_21 : ((zv_b209.drop 21).take 1).all (zchkb 209) = true := by decide +kernel
theorem zb_209_22 : ((zv_b209.drop 22).take 1).all (zchkb 209) = true := by decide +kernel
theorem zb_209_23 : ((zv_b209.drop 23).take 1).all (zchkb 209) = true := by decide +kernel
theorem zb_209_24 : ((zv_b209.drop 24).take 2).all (zchkb 209) = true := by decide +kernel
theorem zb_209_26 : ((zv_b209.drop 26).take 2).all (zchkb 209) = true := by decide +kernel
theorem zb_209_28 : ((zv_b209.drop 28).take 3).all (zchkb 209) = true := by decide +kernel
theorem zb_209_31 : ((zv_b209.drop 31).take 4).all (zchkb 209) = true := by decide +kernel
theorem zb_209_35 : ((zv_b209.drop 35).take 4).all (zchkb 209) = true := by decide +kernel
theorem zb_209_39 : ((zv_b209.drop 39).take 1).all (zchkb 209) = true := by decide +kernel
theorem zb_209_40 : ((zv_b209.drop 40).take 1).all (zchkb 209) = true := by decide +kernel
theorem zb_209_41 : ((zv_b209.drop 41).take 2).all (zchkb 209) = true := by decide +kernel
theorem zb_209_43 : ((zv_b209.drop 43).take 5).all (zchkb 209) = true := by decide +kernel
theorem zb_209_48 : ((zv_b209.drop 48).take 3).all (zchkb 209) = true := by decide +kernel
theorem zb_209 : zv_b209.all (zchkb 209) = true := by
  have e : zv_b209 = (zv_b209.drop 0).take 2 ++ ((zv_b209.drop 2).take 1 ++ ((zv_b209.drop 3).take 2 ++ ((zv_b209.drop 5).take 1 ++ ((zv_b209.drop 6).take 1 ++ ((zv_b209.drop 7).take 2 ++ ((zv_b209.drop 9).take 6 ++ ((zv_b209.drop 15).take 2 ++ ((zv_b209.drop 17).take 1 ++ ((zv_b209.drop 18).take 1 ++ ((zv_b209.drop 19).take 1 ++ ((zv_b209.drop 20).take 1 ++ ((zv_b209.drop 21).take 1 ++ ((zv_b209.drop 22).take 1 ++ ((zv_b209.drop 23).take 1 ++ ((zv_b209.drop 24).take 2 ++ ((zv_b209.drop 26).take 2 ++ ((zv_b209.drop 28).take 3 ++ ((zv_b209.drop 31).take 4 ++ ((zv_b209.drop 35).take 4 ++ ((zv_b209.drop 39).take 1 ++ ((zv_b209.drop 40).take 1 ++ ((zv_b209.drop 41).take 2 ++ ((zv_b209.drop 43).take 5 ++ ((zv_b209.drop 48).take 3)))))))))))))))))))))))) := rfl
  rw [e]
  simp only [List.all_append, zb_209_0, zb_209_2, zb_209_3, zb_209_5, zb_209_6, zb_209_7, zb_209_9, zb_209_15, zb_209_17, zb_209_18, zb_209_19, zb_209_20, zb_209_21, zb_209_22, zb_209_23, zb_209_24, zb_209_26, zb_209_28, zb_209_31, zb_209_35, zb_209_39, zb_209_40, zb_209_41, zb_209_43, zb_209_48, Bool.and_self]
