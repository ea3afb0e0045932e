/-! the image -/
section ZIM
variable (X : zv_X) {b : Bool} {I : zI} {J : zJ}
theorem zcp {f g : Nat → Int32} {m j : Nat} (hj : j < m) : va_cpy f g 0 0 m j = f j := by
  unfold va_cpy
  rw [if_pos (by omega), Nat.zero_add, Nat.sub_zero]
theorem zrow_cp {f g : Nat → Int32} {l : List Int32} {m : Nat} (h : zrow f l) (hm : l.length ≤ m) : zrow (va_cpy f g 0 0 m) l := fun j v hj => by
  have hi := (List.getElem?_eq_some_iff.mp hj).1
  rw [zcp (by omega)]
  exact h j v hj
theorem c_cpActs0 {A U : zKL} (h : zCA I 15 A U) (hl : A.length + U.length ≤ 20) : ∃ I', zg_Acts_copyFrom_0 X 7 22 (zM b I J) = some (none, zM b I' J) ∧ zCA I' 0 A U ∧ ∀ a, a ≠ 7 → a ≠ 8 → a ≠ 9 → I' a = I a := by
  obtain ⟨h1, h2, h3, h4⟩ := h
  have h1 : I 22 2 = Int32.ofNat A.length := h1
  have h2 : I 22 3 = Int32.ofNat U.length := h2
  have h3 : zrow (I 23) ((A ++ U).map (·.1)) := h3
  have h4 : zrow (I 24) ((A ++ U).map (·.2)) := h4
  have ac1 : ∀ {I : zI} {kk : zv_M → Option zv_R}, zv_ac (zM b I J) 23 0 8 0 20 0 kk = kk (zM b (va_up I 8 (va_cpy (I 23) (I 8) 0 0 20)) J) := zac0 (a := 23) (b' := 8) (n := 20) (n' := 20) (m := 20) rfl rfl (by decide) (by decide) (by decide) (by decide) (by decide)
  have ac2 : ∀ {I : zI} {kk : zv_M → Option zv_R}, zv_ac (zM b I J) 24 0 9 0 20 0 kk = kk (zM b (va_up I 9 (va_cpy (I 24) (I 9) 0 0 20)) J) := zac0 (a := 24) (b' := 9) (n := 20) (n' := 20) (m := 20) rfl rfl (by decide) (by decide) (by decide) (by decide) (by decide)
  have ll : (A ++ U).length ≤ 20 := by rw [List.length_append]; exact hl
  refine ⟨zst (zst (va_up (va_up I 8 (va_cpy (I 23) (I 8) 0 0 20)) 9 (va_cpy (I 24) (I 9) 0 0 20)) 7 2 (Int32.ofNat A.length)) 7 3 (Int32.ofNat U.length), ?_, ⟨?_, ?_, ?_, ?_⟩, fun a a1 a2 a3 => ?_⟩
  · rw [zg_Acts_copyFrom_0_e, zo22, zM_P, zp22_0, zrf, zo7, zp7_0, zrf, ac1, zo22, zM_P, zp22_1, zrf, zo7, zp7_1, zrf, ac2, zup_ne (show 24 ≠ 8 by decide), zup_ne (show 9 ≠ 8 by decide), zo22, zo7, zM_I, zup_ne (show 22 ≠ 9 by decide), zup_ne (show 22 ≠ 8 by decide), h1, zM_wI, zo22, zo7, zM_I, zst_ne (show 22 ≠ 7 by decide), zup_ne (show 22 ≠ 9 by decide), zup_ne (show 22 ≠ 8 by decide), h2, zM_wI]
  · show zst (zst _ 7 2 _) 7 3 _ 7 2 = _
    rw [zst_off (by decide), zst_self]
  · show zst (zst _ 7 2 _) 7 3 _ 7 3 = _
    rw [zst_self]
  · show zrow (zst (zst _ 7 2 _) 7 3 _ 8) _
    rw [zst_ne (by decide), zst_ne (by decide), zup_ne (by decide), zup_same]
    exact zrow_cp h3 (by rw [List.length_map]; exact ll)
  · show zrow (zst (zst _ 7 2 _) 7 3 _ 9) _
    rw [zst_ne (by decide), zst_ne (by decide), zup_same]
    exact zrow_cp h4 (by rw [List.length_map]; exact ll)
  · rw [zst_ne a1, zst_ne a1, zup_ne a3, zup_ne a2]
theorem c_cpPlane0 {P : List (Nat × Nat)} {B : List zBX} (h : zCP I 15 P B) (hk : zPok P B) : ∃ I', zg_Plane_copyFrom_0 X 12 27 (zM b I J) = some (none, zM b I' J) ∧ zCP I' 0 P B ∧ ∀ a, a ≠ 12 → a ≠ 13 → a ≠ 14 → a ≠ 15 → I' a = I a := by
  obtain ⟨h1, h2, h3, h4⟩ := h
  have k1 := hk.1
  have k2 := hk.2.1
  have h1 : I 27 2 = Int32.ofNat P.length := h1
  have h2 : I 27 4 = Int32.ofNat B.length := h2
  have h3 : ∀ i p, P[i]? = some p → I 28 i = Int32.ofNat p.1 ∧ I 29 i = Int32.ofNat p.2 := h3
  have h4 : ∀ i q, B[i]? = some q → I 30 (4 * i) = Int32.ofNat q.1 ∧ I 30 (4 * i + 1) = Int32.ofNat q.2.1 ∧ I 30 (4 * i + 2) = Int32.ofNat q.2.2.1 ∧ I 30 (4 * i + 3) = Int32.ofNat q.2.2.2 := h4
  have ac1 : ∀ {I : zI} {kk : zv_M → Option zv_R}, zv_ac (zM b I J) 28 0 13 0 100 0 kk = kk (zM b (va_up I 13 (va_cpy (I 28) (I 13) 0 0 100)) J) := zac0 (a := 28) (b' := 13) (n := 100) (n' := 100) (m := 100) rfl rfl (by decide) (by decide) (by decide) (by decide) (by decide)
  have ac2 : ∀ {I : zI} {kk : zv_M → Option zv_R}, zv_ac (zM b I J) 29 0 14 0 100 0 kk = kk (zM b (va_up I 14 (va_cpy (I 29) (I 14) 0 0 100)) J) := zac0 (a := 29) (b' := 14) (n := 100) (n' := 100) (m := 100) rfl rfl (by decide) (by decide) (by decide) (by decide) (by decide)
  have ac3 : ∀ {I : zI} {kk : zv_M → Option zv_R}, zv_ac (zM b I J) 30 0 15 0 (Int32.ofNat 32) 0 kk = kk (zM b (va_up I 15 (va_cpy (I 30) (I 15) 0 0 32)) J) := zac0 (a := 30) (b' := 15) (n := 32) (n' := 32) (m := 32) rfl rfl (by decide) (by decide) (by decide) (by decide) (by decide)
  have hlen : ∀ {I : zI} {kk : Nat → Option zv_R}, zv_len (zM b I J) 15 kk = kk 32 := zlen' (a := 15) (t := 0) (n := 32) rfl (by decide)
  refine ⟨zst (va_up (zst (va_up (va_up I 13 (va_cpy (I 28) (I 13) 0 0 100)) 14 (va_cpy (I 29) (I 14) 0 0 100)) 12 2 (Int32.ofNat P.length)) 15 (va_cpy (I 30) (I 15) 0 0 32)) 12 4 (Int32.ofNat B.length), ?_, ⟨?_, ?_, fun i p hp => ?_, fun i q hq => ?_⟩, fun a a1 a2 a3 a4 => ?_⟩
  · rw [zg_Plane_copyFrom_0_e, zo27, zM_P, zp27_0, zrf, zo12, zp12_0, zrf, ac1, zo27, zM_P, zp27_1, zrf, zo12, zp12_1, zrf, ac2, zup_ne (show 29 ≠ 13 by decide), zup_ne (show 14 ≠ 13 by decide), zo27, zo12, zM_I, zup_ne (show 27 ≠ 14 by decide), zup_ne (show 27 ≠ 13 by decide), h1, zM_wI, zo27, zM_P, zp27_3, zrf, zo12, zp12_3, zrf, zo12, zrf, hlen, ac3, zst_ne (show 30 ≠ 12 by decide), zup_ne (show 30 ≠ 14 by decide), zup_ne (show 30 ≠ 13 by decide), zst_ne (show 15 ≠ 12 by decide), zup_ne (show 15 ≠ 14 by decide), zup_ne (show 15 ≠ 13 by decide), zo27, zo12, zM_I, zup_ne (show 27 ≠ 15 by decide), zst_ne (show 27 ≠ 12 by decide), zup_ne (show 27 ≠ 14 by decide), zup_ne (show 27 ≠ 13 by decide), h2, zM_wI]
  · show zst (va_up (zst _ 12 2 _) 15 _) 12 4 _ 12 2 = _
    rw [zst_off (by decide), zup_ne (by decide), zst_self]
  · show zst (va_up (zst _ 12 2 _) 15 _) 12 4 _ 12 4 = _
    rw [zst_self]
  · have hi := (List.getElem?_eq_some_iff.mp hp).1
    show zst (va_up (zst _ 12 2 _) 15 _) 12 4 _ 13 i = _ ∧ zst (va_up (zst _ 12 2 _) 15 _) 12 4 _ 14 i = _
    rw [zst_ne (by decide), zup_ne (by decide), zst_ne (by decide), zup_ne (by decide), zup_same, zcp (by omega), zst_ne (by decide), zup_ne (by decide), zst_ne (by decide), zup_same, zcp (by omega)]
    exact h3 i p hp
  · have hi := (List.getElem?_eq_some_iff.mp hq).1
    have e : zst (va_up (zst (va_up (va_up I 13 (va_cpy (I 28) (I 13) 0 0 100)) 14 (va_cpy (I 29) (I 14) 0 0 100)) 12 2 (Int32.ofNat P.length)) 15 (va_cpy (I 30) (I 15) 0 0 32)) 12 4 (Int32.ofNat B.length) 15 = va_cpy (I 30) (I 15) 0 0 32 := by
      rw [zst_ne (by decide), zup_same]
    show zst _ 12 4 _ 15 (4 * i) = _ ∧ zst _ 12 4 _ 15 (4 * i + 1) = _ ∧ zst _ 12 4 _ 15 (4 * i + 2) = _ ∧ zst _ 12 4 _ 15 (4 * i + 3) = _
    rw [e, zcp (by omega), zcp (by omega), zcp (by omega), zcp (by omega)]
    exact h4 i q hq
  · rw [zst_ne a1, zup_ne a4, zst_ne a1, zup_ne a3, zup_ne a2]
theorem c_copyState0 {s : zS} (h : zCS I 15 s) (hok : zOK s) : ∃ I', zg_State_copyFrom_0 X 1 16 (zM b I J) = some (none, zM b I' J) ∧ zCS I' 0 s ∧ ∀ a, (a < 1 ∨ 15 < a) → I' a = I a := by
  obtain ⟨s1, s2, s3, s4, s5, s6, s7, s8⟩ := h
  have s1 : zKeys I 17 (zsK s) := s1
  have s2 : I 16 2 = Int32.ofNat (zsR s).length := s2
  have s3 : zrow (I 20) (zsR s) := s3
  have s4 : ∀ j, j < 8 → I 21 j = zsT s j := s4
  have s5 : I 16 4 = zsC s := s5
  have s7 : ∀ c, c < 64 → I 26 c = zsG s c := s7
  obtain ⟨I1, a1, a2, a3⟩ := s_copyKeys X (b := b) (J := J) (a := 2) (a' := 17) (zKy_2 b) (zKy_17 b) (by decide) s1
  have ac1 : ∀ {I : zI} {kk : zv_M → Option zv_R}, zv_ac (zM b I J) 20 0 5 0 300 0 kk = kk (zM b (va_up I 5 (va_cpy (I 20) (I 5) 0 0 300)) J) := zac0 (a := 20) (b' := 5) (n := 300) (n' := 300) (m := 300) rfl rfl (by decide) (by decide) (by decide) (by decide) (by decide)
  have ac2 : ∀ {I : zI} {kk : zv_M → Option zv_R}, zv_ac (zM b I J) 21 0 6 0 8 0 kk = kk (zM b (va_up I 6 (va_cpy (I 21) (I 6) 0 0 8)) J) := zac0 (a := 21) (b' := 6) (n := 8) (n' := 8) (m := 8) rfl rfl (by decide) (by decide) (by decide) (by decide) (by decide)
  have ac3 : ∀ {I : zI} {kk : zv_M → Option zv_R}, zv_ac (zM b I J) 26 0 11 0 64 0 kk = kk (zM b (va_up I 11 (va_cpy (I 26) (I 11) 0 0 64)) J) := zac0 (a := 26) (b' := 11) (n := 64) (n' := 64) (m := 64) rfl rfl (by decide) (by decide) (by decide) (by decide) (by decide)
  have q1 : I1 16 = I 16 := a3 16 (by decide) (by decide) (by decide)
  have q5 : I1 20 = I 20 := a3 20 (by decide) (by decide) (by decide)
  have q6 : I1 21 = I 21 := a3 21 (by decide) (by decide) (by decide)
  -- row, its size, told, cost
  generalize hI2 : zst (va_up (zst (va_up I1 5 (va_cpy (I 20) (I1 5) 0 0 300)) 1 2 (Int32.ofNat (zsR s).length)) 6 (va_cpy (I 21) (I1 6) 0 0 8)) 1 4 (zsC s) = I2
  have fr2 : ∀ a, a ≠ 1 → a ≠ 5 → a ≠ 6 → I2 a = I1 a := fun a c1 c2 c3 => by rw [← hI2, zst_ne c1, zup_ne c3, zst_ne c1, zup_ne c2]
  have r5 : zrow (I2 5) (zsR s) := by
    rw [← hI2, zst_ne (by decide), zup_ne (by decide), zst_ne (by decide), zup_same]
    exact zrow_cp s3 hok.2.1.2
  have r1 : I2 1 2 = Int32.ofNat (zsR s).length := by
    rw [← hI2, zst_off (by decide), zup_ne (by decide), zst_self]
  have r14 : I2 1 4 = zsC s := by rw [← hI2, zst_self]
  have r6 : ∀ j, j < 8 → I2 6 j = zsT s j := fun j hj => by
    rw [← hI2, zst_ne (by decide), zup_same, zcp hj]
    exact s4 j hj
  have s6' : zCA I2 15 (zsA s) (zsU s) := by
    unfold zCA at *
    rw [fr2 (7 + 15) (by decide) (by decide) (by decide), fr2 (8 + 15) (by decide) (by decide) (by decide), fr2 (9 + 15) (by decide) (by decide) (by decide), a3 (7 + 15) (by decide) (by decide) (by decide), a3 (8 + 15) (by decide) (by decide) (by decide), a3 (9 + 15) (by decide) (by decide) (by decide)]
    exact s6
  obtain ⟨I3, b1, b2, b3⟩ := c_cpActs0 X (b := b) (J := J) s6' hok.2.2.2.2.2.2.1
  generalize hI4 : va_up I3 11 (va_cpy (I3 26) (I3 11) 0 0 64) = I4
  have fr4 : ∀ a, a ≠ 11 → I4 a = I3 a := fun a c1 => by rw [← hI4, zup_ne c1]
  have r11 : ∀ c, c < 64 → I4 11 c = zsG s c := fun c hc => by
    rw [← hI4, zup_same, zcp hc, b3 26 (by decide) (by decide) (by decide), fr2 26 (by decide) (by decide) (by decide), a3 26 (by decide) (by decide) (by decide)]
    exact s7 c hc
  have s8' : zCP I4 15 (zsP s) (zsB s) := by
    unfold zCP at *
    rw [fr4 (12 + 15) (by decide), fr4 (13 + 15) (by decide), fr4 (14 + 15) (by decide), fr4 (15 + 15) (by decide), b3 (12 + 15) (by decide) (by decide) (by decide), b3 (13 + 15) (by decide) (by decide) (by decide), b3 (14 + 15) (by decide) (by decide) (by decide), b3 (15 + 15) (by decide) (by decide) (by decide), fr2 (12 + 15) (by decide) (by decide) (by decide), fr2 (13 + 15) (by decide) (by decide) (by decide), fr2 (14 + 15) (by decide) (by decide) (by decide), fr2 (15 + 15) (by decide) (by decide) (by decide), a3 (12 + 15) (by decide) (by decide) (by decide), a3 (13 + 15) (by decide) (by decide) (by decide), a3 (14 + 15) (by decide) (by decide) (by decide), a3 (15 + 15) (by decide) (by decide) (by decide)]
    exact s8
  obtain ⟨I5, c1, c2, c3⟩ := c_cpPlane0 X (b := b) (J := J) s8' hok.2.2.2.2.2.2.2.2
  have fr5 : ∀ a, a ≠ 7 → a ≠ 8 → a ≠ 9 → a ≠ 11 → a ≠ 12 → a ≠ 13 → a ≠ 14 → a ≠ 15 → I5 a = I2 a := fun a e1 e2 e3 e4 e5 e6 e7 e8 => by rw [c3 a e5 e6 e7 e8, fr4 a e4, b3 a e1 e2 e3]
  have w1 : I5 1 = I2 1 := fr5 1 (by decide) (by decide) (by decide) (by decide) (by decide) (by decide) (by decide) (by decide)
  have w5 : I5 5 = I2 5 := fr5 5 (by decide) (by decide) (by decide) (by decide) (by decide) (by decide) (by decide) (by decide)
  have w6 : I5 6 = I2 6 := fr5 6 (by decide) (by decide) (by decide) (by decide) (by decide) (by decide) (by decide) (by decide)
  refine ⟨I5, ?_, ⟨?_, ?_, ?_, ?_, ?_, ?_, ?_, c2⟩, fun a ha => ?_⟩
  · rw [zg_State_copyFrom_0_e, zo1, zM_P, zp1_0, zrf, zo16, zp16_0, zrf, zo2, a1, zcv, zo16, zM_P, zp16_1, zrf, zo1, zp1_1, zrf, ac1, q5, zo16, zo1, zM_I, zup_ne (show 16 ≠ 5 by decide), q1, s2, zM_wI, zo16, zM_P, zp16_3, zrf, zo1, zp1_3, zrf, ac2, zst_ne (show 21 ≠ 1 by decide), zup_ne (show 21 ≠ 5 by decide), q6, zst_ne (show 6 ≠ 1 by decide), zup_ne (show 6 ≠ 5 by decide), zo16, zo1, zM_I, zup_ne (show 16 ≠ 6 by decide), zst_ne (show 16 ≠ 1 by decide), zup_ne (show 16 ≠ 5 by decide), q1, s5, zM_wI, hI2, zo1, zM_P, zp1_5, zrf, zo16, zp16_5, zrf, zo7, b1, zcv, zo16, zM_P, zp16_6, zrf, zo25, zp25_0, zrf, zo1, zp1_6, zrf, zo10, zp10_0, zrf, ac3, hI4, zo1, zM_P, zp1_7, zrf, zo16, zp16_7, zrf, zo12, c1, zcv]
  · show zKeys I5 2 (zsK s)
    unfold zKeys at *
    rw [fr5 2 (by decide) (by decide) (by decide) (by decide) (by decide) (by decide) (by decide) (by decide), fr5 (2 + 1) (by decide) (by decide) (by decide) (by decide) (by decide) (by decide) (by decide) (by decide), fr5 (2 + 2) (by decide) (by decide) (by decide) (by decide) (by decide) (by decide) (by decide) (by decide), fr2 2 (by decide) (by decide) (by decide), fr2 (2 + 1) (by decide) (by decide) (by decide), fr2 (2 + 2) (by decide) (by decide) (by decide)]
    exact a2
  · show I5 1 2 = _
    rw [w1]; exact r1
  · show zrow (I5 5) _
    rw [w5]; exact r5
  · show ∀ j, j < 8 → I5 6 j = zsT s j
    rw [w6]; exact r6
  · show I5 1 4 = _
    rw [w1]; exact r14
  · show zCA I5 0 (zsA s) (zsU s)
    unfold zCA at *
    rw [c3 (7 + 0) (by decide) (by decide) (by decide) (by decide), c3 (8 + 0) (by decide) (by decide) (by decide) (by decide), c3 (9 + 0) (by decide) (by decide) (by decide) (by decide), fr4 (7 + 0) (by decide), fr4 (8 + 0) (by decide), fr4 (9 + 0) (by decide)]
    exact b2
  · show ∀ c, c < 64 → I5 11 c = zsG s c
    rw [c3 11 (by decide) (by decide) (by decide) (by decide)]
    exact r11
  · rw [fr5 a (by omega) (by omega) (by omega) (by omega) (by omega) (by omega) (by omega) (by omega), fr2 a (by omega) (by omega) (by omega), a3 a (by omega) (by omega) (by omega)]
theorem c_cpActs15 {A U : zKL} (h : zCA I 0 A U) (hl : A.length + U.length ≤ 20) : ∃ I', zg_Acts_copyFrom_0 X 22 7 (zM b I J) = some (none, zM b I' J) ∧ zCA I' 15 A U ∧ ∀ a, a ≠ 22 → a ≠ 23 → a ≠ 24 → I' a = I a := by
  obtain ⟨h1, h2, h3, h4⟩ := h
  have h1 : I 7 2 = Int32.ofNat A.length := h1
  have h2 : I 7 3 = Int32.ofNat U.length := h2
  have h3 : zrow (I 8) ((A ++ U).map (·.1)) := h3
  have h4 : zrow (I 9) ((A ++ U).map (·.2)) := h4
  have ac1 : ∀ {I : zI} {kk : zv_M → Option zv_R}, zv_ac (zM b I J) 8 0 23 0 20 0 kk = kk (zM b (va_up I 23 (va_cpy (I 8) (I 23) 0 0 20)) J) := zac0 (a := 8) (b' := 23) (n := 20) (n' := 20) (m := 20) rfl rfl (by decide) (by decide) (by decide) (by decide) (by decide)
  have ac2 : ∀ {I : zI} {kk : zv_M → Option zv_R}, zv_ac (zM b I J) 9 0 24 0 20 0 kk = kk (zM b (va_up I 24 (va_cpy (I 9) (I 24) 0 0 20)) J) := zac0 (a := 9) (b' := 24) (n := 20) (n' := 20) (m := 20) rfl rfl (by decide) (by decide) (by decide) (by decide) (by decide)
  have ll : (A ++ U).length ≤ 20 := by rw [List.length_append]; exact hl
  refine ⟨zst (zst (va_up (va_up I 23 (va_cpy (I 8) (I 23) 0 0 20)) 24 (va_cpy (I 9) (I 24) 0 0 20)) 22 2 (Int32.ofNat A.length)) 22 3 (Int32.ofNat U.length), ?_, ⟨?_, ?_, ?_, ?_⟩, fun a a1 a2 a3 => ?_⟩
  · rw [zg_Acts_copyFrom_0_e, zo7, zM_P, zp7_0, zrf, zo22, zp22_0, zrf, ac1, zo7, zM_P, zp7_1, zrf, zo22, zp22_1, zrf, ac2, zup_ne (show 9 ≠ 23 by decide), zup_ne (show 24 ≠ 23 by decide), zo7, zo22, zM_I, zup_ne (show 7 ≠ 24 by decide), zup_ne (show 7 ≠ 23 by decide), h1, zM_wI, zo7, zo22, zM_I, zst_ne (show 7 ≠ 22 by decide), zup_ne (show 7 ≠ 24 by decide), zup_ne (show 7 ≠ 23 by decide), h2, zM_wI]
  · show zst (zst _ 22 2 _) 22 3 _ 22 2 = _
    rw [zst_off (by decide), zst_self]
  · show zst (zst _ 22 2 _) 22 3 _ 22 3 = _
    rw [zst_self]
  · show zrow (zst (zst _ 22 2 _) 22 3 _ 23) _
    rw [zst_ne (by decide), zst_ne (by decide), zup_ne (by decide), zup_same]
    exact zrow_cp h3 (by rw [List.length_map]; exact ll)
  · show zrow (zst (zst _ 22 2 _) 22 3 _ 24) _
    rw [zst_ne (by decide), zst_ne (by decide), zup_same]
    exact zrow_cp h4 (by rw [List.length_map]; exact ll)
  · rw [zst_ne a1, zst_ne a1, zup_ne a3, zup_ne a2]
theorem c_cpPlane15 {P : List (Nat × Nat)} {B : List zBX} (h : zCP I 0 P B) (hk : zPok P B) : ∃ I', zg_Plane_copyFrom_0 X 27 12 (zM b I J) = some (none, zM b I' J) ∧ zCP I' 15 P B ∧ ∀ a, a ≠ 27 → a ≠ 28 → a ≠ 29 → a ≠ 30 → I' a = I a := by
  obtain ⟨h1, h2, h3, h4⟩ := h
  have k1 := hk.1
  have k2 := hk.2.1
  have h1 : I 12 2 = Int32.ofNat P.length := h1
  have h2 : I 12 4 = Int32.ofNat B.length := h2
  have h3 : ∀ i p, P[i]? = some p → I 13 i = Int32.ofNat p.1 ∧ I 14 i = Int32.ofNat p.2 := h3
  have h4 : ∀ i q, B[i]? = some q → I 15 (4 * i) = Int32.ofNat q.1 ∧ I 15 (4 * i + 1) = Int32.ofNat q.2.1 ∧ I 15 (4 * i + 2) = Int32.ofNat q.2.2.1 ∧ I 15 (4 * i + 3) = Int32.ofNat q.2.2.2 := h4
  have ac1 : ∀ {I : zI} {kk : zv_M → Option zv_R}, zv_ac (zM b I J) 13 0 28 0 100 0 kk = kk (zM b (va_up I 28 (va_cpy (I 13) (I 28) 0 0 100)) J) := zac0 (a := 13) (b' := 28) (n := 100) (n' := 100) (m := 100) rfl rfl (by decide) (by decide) (by decide) (by decide) (by decide)
  have ac2 : ∀ {I : zI} {kk : zv_M → Option zv_R}, zv_ac (zM b I J) 14 0 29 0 100 0 kk = kk (zM b (va_up I 29 (va_cpy (I 14) (I 29) 0 0 100)) J) := zac0 (a := 14) (b' := 29) (n := 100) (n' := 100) (m := 100) rfl rfl (by decide) (by decide) (by decide) (by decide) (by decide)
  have ac3 : ∀ {I : zI} {kk : zv_M → Option zv_R}, zv_ac (zM b I J) 15 0 30 0 (Int32.ofNat 32) 0 kk = kk (zM b (va_up I 30 (va_cpy (I 15) (I 30) 0 0 32)) J) := zac0 (a := 15) (b' := 30) (n := 32) (n' := 32) (m := 32) rfl rfl (by decide) (by decide) (by decide) (by decide) (by decide)
  have hlen : ∀ {I : zI} {kk : Nat → Option zv_R}, zv_len (zM b I J) 30 kk = kk 32 := zlen' (a := 30) (t := 0) (n := 32) rfl (by decide)
  refine ⟨zst (va_up (zst (va_up (va_up I 28 (va_cpy (I 13) (I 28) 0 0 100)) 29 (va_cpy (I 14) (I 29) 0 0 100)) 27 2 (Int32.ofNat P.length)) 30 (va_cpy (I 15) (I 30) 0 0 32)) 27 4 (Int32.ofNat B.length), ?_, ⟨?_, ?_, fun i p hp => ?_, fun i q hq => ?_⟩, fun a a1 a2 a3 a4 => ?_⟩
  · rw [zg_Plane_copyFrom_0_e, zo12, zM_P, zp12_0, zrf, zo27, zp27_0, zrf, ac1, zo12, zM_P, zp12_1, zrf, zo27, zp27_1, zrf, ac2, zup_ne (show 14 ≠ 28 by decide), zup_ne (show 29 ≠ 28 by decide), zo12, zo27, zM_I, zup_ne (show 12 ≠ 29 by decide), zup_ne (show 12 ≠ 28 by decide), h1, zM_wI, zo12, zM_P, zp12_3, zrf, zo27, zp27_3, zrf, zo27, zrf, hlen, ac3, zst_ne (show 15 ≠ 27 by decide), zup_ne (show 15 ≠ 29 by decide), zup_ne (show 15 ≠ 28 by decide), zst_ne (show 30 ≠ 27 by decide), zup_ne (show 30 ≠ 29 by decide), zup_ne (show 30 ≠ 28 by decide), zo12, zo27, zM_I, zup_ne (show 12 ≠ 30 by decide), zst_ne (show 12 ≠ 27 by decide), zup_ne (show 12 ≠ 29 by decide), zup_ne (show 12 ≠ 28 by decide), h2, zM_wI]
  · show zst (va_up (zst _ 27 2 _) 30 _) 27 4 _ 27 2 = _
    rw [zst_off (by decide), zup_ne (by decide), zst_self]
  · show zst (va_up (zst _ 27 2 _) 30 _) 27 4 _ 27 4 = _
    rw [zst_self]
  · have hi := (List.getElem?_eq_some_iff.mp hp).1
    show zst (va_up (zst _ 27 2 _) 30 _) 27 4 _ 28 i = _ ∧ zst (va_up (zst _ 27 2 _) 30 _) 27 4 _ 29 i = _
    rw [zst_ne (by decide), zup_ne (by decide), zst_ne (by decide), zup_ne (by decide), zup_same, zcp (by omega), zst_ne (by decide), zup_ne (by decide), zst_ne (by decide), zup_same, zcp (by omega)]
    exact h3 i p hp
  · have hi := (List.getElem?_eq_some_iff.mp hq).1
    have e : zst (va_up (zst (va_up (va_up I 28 (va_cpy (I 13) (I 28) 0 0 100)) 29 (va_cpy (I 14) (I 29) 0 0 100)) 27 2 (Int32.ofNat P.length)) 30 (va_cpy (I 15) (I 30) 0 0 32)) 27 4 (Int32.ofNat B.length) 30 = va_cpy (I 15) (I 30) 0 0 32 := by
      rw [zst_ne (by decide), zup_same]
    show zst _ 27 4 _ 30 (4 * i) = _ ∧ zst _ 27 4 _ 30 (4 * i + 1) = _ ∧ zst _ 27 4 _ 30 (4 * i + 2) = _ ∧ zst _ 27 4 _ 30 (4 * i + 3) = _
    rw [e, zcp (by omega), zcp (by omega), zcp (by omega), zcp (by omega)]
    exact h4 i q hq
  · rw [zst_ne a1, zup_ne a4, zst_ne a1, zup_ne a3, zup_ne a2]
theorem c_copyState15 {s : zS} (h : zCS I 0 s) (hok : zOK s) : ∃ I', zg_State_copyFrom_0 X 16 1 (zM b I J) = some (none, zM b I' J) ∧ zCS I' 15 s ∧ ∀ a, (a < 16 ∨ 30 < a) → I' a = I a := by
  obtain ⟨s1, s2, s3, s4, s5, s6, s7, s8⟩ := h
  have s1 : zKeys I 2 (zsK s) := s1
  have s2 : I 1 2 = Int32.ofNat (zsR s).length := s2
  have s3 : zrow (I 5) (zsR s) := s3
  have s4 : ∀ j, j < 8 → I 6 j = zsT s j := s4
  have s5 : I 1 4 = zsC s := s5
  have s7 : ∀ c, c < 64 → I 11 c = zsG s c := s7
  obtain ⟨I1, a1, a2, a3⟩ := s_copyKeys X (b := b) (J := J) (a := 17) (a' := 2) (zKy_17 b) (zKy_2 b) (by decide) s1
  have ac1 : ∀ {I : zI} {kk : zv_M → Option zv_R}, zv_ac (zM b I J) 5 0 20 0 300 0 kk = kk (zM b (va_up I 20 (va_cpy (I 5) (I 20) 0 0 300)) J) := zac0 (a := 5) (b' := 20) (n := 300) (n' := 300) (m := 300) rfl rfl (by decide) (by decide) (by decide) (by decide) (by decide)
  have ac2 : ∀ {I : zI} {kk : zv_M → Option zv_R}, zv_ac (zM b I J) 6 0 21 0 8 0 kk = kk (zM b (va_up I 21 (va_cpy (I 6) (I 21) 0 0 8)) J) := zac0 (a := 6) (b' := 21) (n := 8) (n' := 8) (m := 8) rfl rfl (by decide) (by decide) (by decide) (by decide) (by decide)
  have ac3 : ∀ {I : zI} {kk : zv_M → Option zv_R}, zv_ac (zM b I J) 11 0 26 0 64 0 kk = kk (zM b (va_up I 26 (va_cpy (I 11) (I 26) 0 0 64)) J) := zac0 (a := 11) (b' := 26) (n := 64) (n' := 64) (m := 64) rfl rfl (by decide) (by decide) (by decide) (by decide) (by decide)
  have q1 : I1 1 = I 1 := a3 1 (by decide) (by decide) (by decide)
  have q5 : I1 5 = I 5 := a3 5 (by decide) (by decide) (by decide)
  have q6 : I1 6 = I 6 := a3 6 (by decide) (by decide) (by decide)
  -- row, its size, told, cost
  generalize hI2 : zst (va_up (zst (va_up I1 20 (va_cpy (I 5) (I1 20) 0 0 300)) 16 2 (Int32.ofNat (zsR s).length)) 21 (va_cpy (I 6) (I1 21) 0 0 8)) 16 4 (zsC s) = I2
  have fr2 : ∀ a, a ≠ 16 → a ≠ 20 → a ≠ 21 → I2 a = I1 a := fun a c1 c2 c3 => by rw [← hI2, zst_ne c1, zup_ne c3, zst_ne c1, zup_ne c2]
  have r5 : zrow (I2 20) (zsR s) := by
    rw [← hI2, zst_ne (by decide), zup_ne (by decide), zst_ne (by decide), zup_same]
    exact zrow_cp s3 hok.2.1.2
  have r1 : I2 16 2 = Int32.ofNat (zsR s).length := by
    rw [← hI2, zst_off (by decide), zup_ne (by decide), zst_self]
  have r14 : I2 16 4 = zsC s := by rw [← hI2, zst_self]
  have r6 : ∀ j, j < 8 → I2 21 j = zsT s j := fun j hj => by
    rw [← hI2, zst_ne (by decide), zup_same, zcp hj]
    exact s4 j hj
  have s6' : zCA I2 0 (zsA s) (zsU s) := by
    unfold zCA at *
    rw [fr2 (7 + 0) (by decide) (by decide) (by decide), fr2 (8 + 0) (by decide) (by decide) (by decide), fr2 (9 + 0) (by decide) (by decide) (by decide), a3 (7 + 0) (by decide) (by decide) (by decide), a3 (8 + 0) (by decide) (by decide) (by decide), a3 (9 + 0) (by decide) (by decide) (by decide)]
    exact s6
  obtain ⟨I3, b1, b2, b3⟩ := c_cpActs15 X (b := b) (J := J) s6' hok.2.2.2.2.2.2.1
  generalize hI4 : va_up I3 26 (va_cpy (I3 11) (I3 26) 0 0 64) = I4
  have fr4 : ∀ a, a ≠ 26 → I4 a = I3 a := fun a c1 => by rw [← hI4, zup_ne c1]
  have r11 : ∀ c, c < 64 → I4 26 c = zsG s c := fun c hc => by
    rw [← hI4, zup_same, zcp hc, b3 11 (by decide) (by decide) (by decide), fr2 11 (by decide) (by decide) (by decide), a3 11 (by decide) (by decide) (by decide)]
    exact s7 c hc
  have s8' : zCP I4 0 (zsP s) (zsB s) := by
    unfold zCP at *
    rw [fr4 (12 + 0) (by decide), fr4 (13 + 0) (by decide), fr4 (14 + 0) (by decide), fr4 (15 + 0) (by decide), b3 (12 + 0) (by decide) (by decide) (by decide), b3 (13 + 0) (by decide) (by decide) (by decide), b3 (14 + 0) (by decide) (by decide) (by decide), b3 (15 + 0) (by decide) (by decide) (by decide), fr2 (12 + 0) (by decide) (by decide) (by decide), fr2 (13 + 0) (by decide) (by decide) (by decide), fr2 (14 + 0) (by decide) (by decide) (by decide), fr2 (15 + 0) (by decide) (by decide) (by decide), a3 (12 + 0) (by decide) (by decide) (by decide), a3 (13 + 0) (by decide) (by decide) (by decide), a3 (14 + 0) (by decide) (by decide) (by decide), a3 (15 + 0) (by decide) (by decide) (by decide)]
    exact s8
  obtain ⟨I5, c1, c2, c3⟩ := c_cpPlane15 X (b := b) (J := J) s8' hok.2.2.2.2.2.2.2.2
  have fr5 : ∀ a, a ≠ 22 → a ≠ 23 → a ≠ 24 → a ≠ 26 → a ≠ 27 → a ≠ 28 → a ≠ 29 → a ≠ 30 → I5 a = I2 a := fun a e1 e2 e3 e4 e5 e6 e7 e8 => by rw [c3 a e5 e6 e7 e8, fr4 a e4, b3 a e1 e2 e3]
  have w1 : I5 16 = I2 16 := fr5 16 (by decide) (by decide) (by decide) (by decide) (by decide) (by decide) (by decide) (by decide)
  have w5 : I5 20 = I2 20 := fr5 20 (by decide) (by decide) (by decide) (by decide) (by decide) (by decide) (by decide) (by decide)
  have w6 : I5 21 = I2 21 := fr5 21 (by decide) (by decide) (by decide) (by decide) (by decide) (by decide) (by decide) (by decide)
  refine ⟨I5, ?_, ⟨?_, ?_, ?_, ?_, ?_, ?_, ?_, c2⟩, fun a ha => ?_⟩
  · rw [zg_State_copyFrom_0_e, zo16, zM_P, zp16_0, zrf, zo1, zp1_0, zrf, zo17, a1, zcv, zo1, zM_P, zp1_1, zrf, zo16, zp16_1, zrf, ac1, q5, zo1, zo16, zM_I, zup_ne (show 1 ≠ 20 by decide), q1, s2, zM_wI, zo1, zM_P, zp1_3, zrf, zo16, zp16_3, zrf, ac2, zst_ne (show 6 ≠ 16 by decide), zup_ne (show 6 ≠ 20 by decide), q6, zst_ne (show 21 ≠ 16 by decide), zup_ne (show 21 ≠ 20 by decide), zo1, zo16, zM_I, zup_ne (show 1 ≠ 21 by decide), zst_ne (show 1 ≠ 16 by decide), zup_ne (show 1 ≠ 20 by decide), q1, s5, zM_wI, hI2, zo16, zM_P, zp16_5, zrf, zo1, zp1_5, zrf, zo22, b1, zcv, zo1, zM_P, zp1_6, zrf, zo10, zp10_0, zrf, zo16, zp16_6, zrf, zo25, zp25_0, zrf, ac3, hI4, zo16, zM_P, zp16_7, zrf, zo1, zp1_7, zrf, zo27, c1, zcv]
  · show zKeys I5 17 (zsK s)
    unfold zKeys at *
    rw [fr5 17 (by decide) (by decide) (by decide) (by decide) (by decide) (by decide) (by decide) (by decide), fr5 (17 + 1) (by decide) (by decide) (by decide) (by decide) (by decide) (by decide) (by decide) (by decide), fr5 (17 + 2) (by decide) (by decide) (by decide) (by decide) (by decide) (by decide) (by decide) (by decide), fr2 17 (by decide) (by decide) (by decide), fr2 (17 + 1) (by decide) (by decide) (by decide), fr2 (17 + 2) (by decide) (by decide) (by decide)]
    exact a2
  · show I5 16 2 = _
    rw [w1]; exact r1
  · show zrow (I5 20) _
    rw [w5]; exact r5
  · show ∀ j, j < 8 → I5 21 j = zsT s j
    rw [w6]; exact r6
  · show I5 16 4 = _
    rw [w1]; exact r14
  · show zCA I5 15 (zsA s) (zsU s)
    unfold zCA at *
    rw [c3 (7 + 15) (by decide) (by decide) (by decide) (by decide), c3 (8 + 15) (by decide) (by decide) (by decide) (by decide), c3 (9 + 15) (by decide) (by decide) (by decide) (by decide), fr4 (7 + 15) (by decide), fr4 (8 + 15) (by decide), fr4 (9 + 15) (by decide)]
    exact b2
  · show ∀ c, c < 64 → I5 26 c = zsG s c
    rw [c3 26 (by decide) (by decide) (by decide) (by decide)]
    exact r11
  · rw [fr5 a (by omega) (by omega) (by omega) (by omega) (by omega) (by omega) (by omega) (by omega), fr2 a (by omega) (by omega) (by omega), a3 a (by omega) (by omega) (by omega)]
theorem m_img15 {l1 : Int32} (d s : Nat) (hd : l1 = 0 ∧ d = 182 ∧ s = 183 ∨ l1 ≠ 0 ∧ d = 183 ∧ s = 182) : ∀ (m i : Nat) (I : zI), i + m = 1668 → ∃ I', zg_M_image_15 X 181 l1 (Int32.ofNat i) (zM b I J) = zg_M_image_59 X 181 (zM b I' J) ∧ (∀ c, c ≠ d → I' c = I c) ∧ ∀ j, I' d j = if i ≤ j ∧ j < 1668 then I s j else I d j := by
  have e16 : (1668 : Int32) = Int32.ofNat 1668 := rfl
  have hds : s ≠ d := by omega
  intro m
  induction m with
  | zero =>
    intro i I hi
    refine ⟨I, ?_, fun _ _ => rfl, fun j => by rw [if_neg (by omega)]⟩
    rw [zg_M_image_15_e, e16, if_pos ((zn_le (by omega) (by omega)).mpr (by omega))]
  | succ m ih =>
    intro i I hi
    obtain ⟨I', q1, q2, q3⟩ := ih (i + 1) (zst I d i (I s i)) (by omega)
    refine ⟨I', ?_, fun c hc => by rw [q2 c hc, zst_ne hc], fun j => ?_⟩
    · rw [← q1, zg_M_image_15_e, e16, if_neg (fun q => absurd ((zn_le (by omega) (by omega)).mp q) (by omega))]
      rcases hd with ⟨h1, h2, h3⟩ | ⟨h1, h2, h3⟩
      · subst h2; subst h3
        rw [if_pos h1, zg_M_image_41_e, zo181, zM_P, zp181_0, zrf, zo181, zp181_1, zrf, zx183 (by omega), zx182 (by omega), zM_wI, zM_I, zg_M_image_53_e, zn_add1, h1]
      · subst h2; subst h3
        rw [if_neg h1, zo181, zM_P, zp181_1, zrf, zo181, zp181_0, zrf, zx182 (by omega), zx183 (by omega), zM_wI, zM_I, zg_M_image_53_e, zn_add1]
    · rw [q3 j, zst_ne hds]
      by_cases c : j = i
      · rw [if_neg (by omega), c, zst_self, if_pos (by omega)]
      · rw [zst_off c]
        by_cases dd : i + 1 ≤ j ∧ j < 1668
        · rw [if_pos dd, if_pos (by omega)]
        · rw [if_neg dd, if_neg (by omega)]
theorem zMS_cp {f f' : Nat → Int32} {s : zS} (h : zMS f s) (hok : zOK s) (hf : ∀ i, i < 1668 → f' i = f i) : zMS f' s := by
  obtain ⟨s1, s2, s3, s4, s5, s6⟩ := h
  exact ⟨zMK_fr (fun i hi => hf i (by omega)) (zKR_of hok.1 hok.2.1) s1, fun j hj => by rw [hf j (by omega)]; exact s2 j hj, by rw [hf 10 (by omega)]; exact s3, zMA_fr (fun i hi => hf i (by omega)) hok.2.2.2.2.2.2.1 s4, fun c hc => by rw [hf _ (by omega), hf _ (by omega)]; exact s5 c hc, zMP_fr (fun i hi => hf i (by omega)) hok.2.2.2.2.2.2.2.2 s6⟩
theorem go_image (l : Int32) : zGo (fun M => zg_GP_image_0 X 0 l M) (fun M => zg_M_image_0 X 181 l M) := fun t b I J hi => by
  obtain ⟨s, img, g, n, fk, fp⟩ := t
  have hok : zOK s := hi.1.1
  have hs : zCS I 0 s := hi.2.1.1
  by_cases hl : l = 0
  · subst hl
    cases img with
    | none =>
      have h02 : I 0 2 = 0 := hi.2.1.2.2.1
      have h13 : I 181 3 = 0 := hi.2.2.2.1
      refine zGo_r0 hi (v := .int 0) ?_ (fun hm => ⟨I, J, ?_, hi.2.2, fun _ _ => ⟨rfl, rfl⟩⟩)
      · show zg_GP_image_0 X 0 0 (zM b I J) = _
        rw [zg_GP_image_0_e, if_pos rfl, zg_GP_image_23_e, zo0, zM_I, h02, if_pos rfl, zg_GP_image_80_e, zo0, zM_I, h02, zrb0]
      · show zg_M_image_0 X 181 0 (zM b I J) = _
        rw [zg_M_image_0_e, if_pos rfl, zo181, zM_I, h13, if_pos rfl, zrb0]
    | some s' =>
      have him : I 0 2 = 1 ∧ zCS I 15 s' := hi.2.1.2.2.1
      have hok' : zOK s' := hi.1.2 s' rfl
      obtain ⟨I1, a1, a2, a3⟩ := c_copyState0 X (b := b) (J := J) him.2 hok'
      have hT1 : ∀ j, j < 8 → I1 6 j = zsT s' j := a2.2.2.2.1
      have h12 : I1 1 2 = Int32.ofNat (zsR s').length := a2.2.1
      obtain ⟨e1, e2⟩ := zE_e hok'
      obtain ⟨u1, u2⟩ := zE_u hok'
      obtain ⟨I2, J2, H, b1, b2, b3⟩ := c_over X (b := b) (I := I1) (J := J) (cv := 40) (n := (zsR s').length) (e := zEe s') (u := zEu s') (ar := 5) (N := 300) (f := zrf' (zsR s')) (zCvS_40 b) (zrf_fb hok'.2.2.1) (zrf_up hok'.2.1.1) hok'.2.1.2 e2 u2 rfl (by decide) hok'.2.1.2 (Or.inl (by decide)) (zrow_i (show zrow (I1 5) (zsR s') from a2.2.2.1))
      have hH : H ≤ 9 := zHt_9 (zrf_up hok'.2.1.1) hok'.2.1.2 b2.2.1
      have lo : ∀ a, a < 40 → I2 a = I1 a := fun a ha => (b3 a (by omega)).1
      have lo2 : ∀ a, (a = 0 ∨ (16 ≤ a ∧ a < 40)) → I2 a = I a := fun a ha => by rw [lo a (by omega), a3 a (by omega)]
      refine zGo_mk hi (t' := (s', some s', g, n, fk, fp)) (v := .int 1) ⟨hok', hi.1.2⟩ (b' := b) (I1 := I2) (J1 := J2) ?_ ⟨zCS_fr (fun a _ _ => lo a (by omega)) a2, ⟨H, hH, b2⟩, ⟨by rw [lo2 0 (by omega)]; exact him.1, zCS_fr (fun a _ _ => lo2 a (by omega)) him.2⟩, zTO_fr hi.2.1.2.2.2.1 (by rw [lo2 31 (by omega)]) (lo2 32 (by omega)), by rw [lo2 31 (by omega)]; exact hi.2.1.2.2.2.2.1, by rw [lo2 31 (by omega)]; exact hi.2.1.2.2.2.2.2⟩ (fun a ha => by rw [(b3 a (by omega)).1, a3 a (by omega)]) (fun hm => ?_)
      · show zg_GP_image_0 X 0 0 (zM b I J) = _
        have h02 : I2 0 2 = 1 := by rw [lo2 0 (by omega)]; exact him.1
        rw [zg_GP_image_0_e, if_pos rfl, zg_GP_image_23_e, zo0, zM_I, him.1, if_neg (by decide), zo0, zM_P, zp0_0, zrf, zo0, zp0_1, zrf, zo1, a1, zcv, zo0, zM_P, zp0_4, zrf, zo0, zp0_0, zrf, zo1, zp1_1, zrf, zo0, zrf, zo1, zo0, zrf, zo1, zp1_3, zrf, zx6_0, zo0, zrf, zo1, zp1_3, zrf, zx6_1, zo40, zM_I, h12, hT1 0 (by decide), hT1 1 (by decide), e1, u1, b1, zcv, zg_GP_image_80_e, zo0, zM_I, h02, zrb1]
      · have hmi : I2 181 3 = 1 ∧ zMS (I2 183) s' := hm.2.1
        obtain ⟨I3, c1, c2, c3⟩ := m_img15 X (b := b) (J := J2) (l1 := 0) 182 183 (Or.inl ⟨rfl, rfl, rfl⟩) 1668 0 I2 (by decide)
        have c1' : zg_M_image_15 X 181 0 0 (zM b I2 J2) = _ := c1
        refine ⟨zst I3 181 3 1, J2, ?_, zMI_mk (s := s) (r := (some s', g, n, fk, fp)) hm ?_ ⟨by rw [zst_ne (by decide), c2 183 (by decide)], by rw [zst_ne (by decide), c2 187 (by decide)]⟩ ⟨by rw [zst_self, hmi.1], by rw [zst_off (by decide), c2 181 (by decide)], by rw [zst_off (by decide), c2 181 (by decide)], by rw [zst_off (by decide), c2 181 (by decide)]⟩, fun a ha => ⟨by rw [zst_ne (by omega), c2 a (by omega)], rfl⟩⟩
        · show zg_M_image_0 X 181 0 (zM b I2 J2) = _
          rw [zg_M_image_0_e, if_pos rfl, zo181, zM_I, hmi.1, if_neg (by decide), zg_M_image_13_e, c1', zg_M_image_59_e, zo181, if_pos (Or.inr rfl), zM_wI, zrb1]
        · refine zMS_cp hmi.2 hok' (fun i hi' => ?_)
          rw [zst_ne (by decide), c3 i, if_pos ⟨Nat.zero_le _, hi'⟩]
  · obtain ⟨I1, a1, a2, a3⟩ := c_copyState15 X (b := b) (J := J) hs hok
    have lo : ∀ a, (a < 16 ∨ 30 < a) → I1 a = I a := fun a ha => a3 a (by omega)
    have lo2 : ∀ a, a ≠ 0 → (a < 16 ∨ 30 < a) → zst I1 0 2 1 a = I a := fun a h0 ha => by rw [zst_ne h0, lo a ha]
    refine zGo_mk hi (t' := (s, some s, g, n, fk, fp)) (v := .int 1) ⟨hok, fun q hq => by cases hq; exact hok⟩ (b' := b) (I1 := zst I1 0 2 1) (J1 := J) ?_ ⟨zCS_fr (fun a _ _ => lo2 a (by omega) (by omega)) hs, zCov_lo hi.2.1.2.1 (fun a q1 _ => ⟨lo2 a (by omega) (by omega), rfl⟩), ⟨zst_self, zCS_fr (fun a _ _ => zst_ne (by omega)) a2⟩, zTO_fr hi.2.1.2.2.2.1 (by rw [lo2 31 (by omega) (by omega)]) (lo2 32 (by omega) (by omega)), by rw [lo2 31 (by omega) (by omega)]; exact hi.2.1.2.2.2.2.1, by rw [lo2 31 (by omega) (by omega)]; exact hi.2.1.2.2.2.2.2⟩ (fun a ha => lo2 a (by omega) (by omega)) (fun hm => ?_)
    · show zg_GP_image_0 X 0 l (zM b I J) = _
      rw [zg_GP_image_0_e, if_neg hl, zo0, zM_P, zp0_1, zrf, zo0, zp0_0, zrf, zo16, a1, zcv, zo0, if_pos (Or.inr rfl), zM_wI, zg_GP_image_80_e, zo0, zM_I, zst_self, zrb1]
    · obtain ⟨I3, c1, c2, c3⟩ := m_img15 X (b := b) (J := J) (l1 := l) 183 182 (Or.inr ⟨hl, rfl, rfl⟩) 1668 0 (zst I1 0 2 1) (by decide)
      have c1' : zg_M_image_15 X 181 l 0 (zM b (zst I1 0 2 1) J) = _ := c1
      have hms : zMS (zst I1 0 2 1 182) s := hm.1
      refine ⟨zst I3 181 3 1, J, ?_, ⟨by rw [zst_ne (by decide), c2 182 (by decide)]; exact hms, ⟨zst_self, ?_⟩, ?_, by rw [zst_off (by decide), c2 181 (by decide)]; exact hm.2.2.2.1, by rw [zst_off (by decide), c2 181 (by decide)]; exact hm.2.2.2.2⟩, fun a ha => ⟨by rw [zst_ne (by omega), c2 a (by omega)], rfl⟩⟩
      · show zg_M_image_0 X 181 l (zM b (zst I1 0 2 1) J) = _
        rw [zg_M_image_0_e, if_neg hl, zg_M_image_13_e, c1', zg_M_image_59_e, zo181, if_pos (Or.inr rfl), zM_wI, zrb1]
      · refine zMS_cp hms hok (fun i hi' => ?_)
        rw [zst_ne (by decide), c3 i, if_pos ⟨Nat.zero_le _, hi'⟩]
      · have m3 : zTMr (zst I1 0 2 1) g n := hm.2.2.1
        show zTMr (zst I3 181 3 1) g n
        unfold zTMr at *
        rw [zst_off (by decide), zst_ne (by decide), c2 181 (by decide), c2 187 (by decide)]
        exact m3
end ZIM
