/-! THE FIRST STATE, and the pure goal -/
abbrev zt0 : zST := (([], [], fun j => ([1, 1, 4, 8, 8, 64, 2, 0] : List Int32).getD j 0, 0, [], [], fun _ => zN, [], []), none, fun _ => 0, 0, 0, -1)
theorem zOK0 : zOKt zt0 := by
  refine ⟨⟨⟨List.Pairwise.nil, Nat.zero_le _, fun q hq => (by cases hq), fun q hq => by cases hq⟩, ⟨List.Pairwise.nil, Nat.zero_le _⟩, fun r hr => (by cases hr), fun j hj => ?_, ⟨[], rfl⟩, ⟨[], rfl⟩, Nat.zero_le _, fun i j _ _ h _ => absurd rfl h, ⟨Nat.zero_le _, Nat.zero_le _, fun p hp => (by cases hp), fun q hq => by cases hq⟩⟩, fun s hs => by cases hs⟩
  match j, hj with
  | 0, _ => decide
  | 1, _ => decide
  | 2, _ => decide
  | 3, _ => decide
  | 4, _ => decide
  | 5, _ => decide
  | 6, _ => decide
  | 7, _ => decide
  | j + 8, h => exact absurd h (by omega)
theorem zrow_nil {f : Nat → Int32} : zrow f [] := fun j v h => by simp at h
theorem zprs_nil {f : Nat → Int32} {d : Nat} : zprs f d [] := fun j v h => by simp at h
theorem zni {α : Type} {i : Nat} {p : α} {Q : Prop} (h : ([] : List α)[i]? = some p) : Q := by simp at h
theorem zInv0 {I : zI} {J : zJ} (A : ∀ c, c ≠ 0 → c ≠ 6 → c ≠ 11 → c ≠ 21 → c ≠ 26 → c ≠ 31 → c ≠ 178 → c ≠ 181 → c ≠ 182 → ∀ j, I c j = 0) (h6 : ∀ j, j < 8 → I 6 j = ([1, 1, 4, 8, 8, 64, 2, 0] : List Int32).getD j 0) (h11 : ∀ i, i < 64 → I 11 i = zN) (h0 : I 0 2 = 0) (h31 : ∀ j, j ≠ 5 → I 31 j = 0) (h315 : I 31 5 = -1) (h181 : ∀ j, j ≠ 15 → I 181 j = 0) (h18115 : I 181 15 = -1) (h182 : ∀ j, j < 8 → I 182 j = ([1, 1, 4, 8, 8, 64, 2, 0] : List Int32).getD j 0) (h182' : ∀ j, 8 ≤ j → I 182 j = 0) : zInv zt0 I J := by
  have A' : ∀ c, (c = 1 ∨ c = 2 ∨ c = 7 ∨ c = 12 ∨ c = 40 ∨ c = 49) → ∀ j, I c j = 0 := fun c hc j => A c (by omega) (by omega) (by omega) (by omega) (by omega) (by omega) (by omega) (by omega) (by omega) j
  refine ⟨zOK0, ⟨⟨?_, ?_, ?_, ?_, ?_, ?_, ?_, ?_⟩, ⟨0, by decide, ?_⟩, ?_, ?_, ?_, ?_⟩, ⟨⟨?_, ?_, ?_, ?_, ?_, ?_⟩, ?_, ?_, ?_, ?_⟩⟩
  · exact ⟨A' 2 (by decide) 2, zrow_nil, zrow_nil, Nat.zero_le _⟩
  · exact A' 1 (by decide) 2
  · exact zrow_nil
  · exact h6
  · exact A' 1 (by decide) 4
  · exact ⟨A' 7 (by decide) 2, A' 7 (by decide) 3, zrow_nil, zrow_nil⟩
  · exact h11
  · exact ⟨A' 12 (by decide) 2, A' 12 (by decide) 4, fun i p h => zni h, fun i p h => zni h⟩
  · refine ⟨A' 40 (by decide) 2, Or.inl ⟨rfl, rfl⟩, ⟨A' 49 (by decide) 1, fun h => absurd h (by decide), A' 49 (by decide) 3, fun i hi => absurd hi (Nat.not_lt_zero i), fun k hk => absurd hk (Nat.not_lt_zero k)⟩, fun l hl => absurd hl (Nat.not_lt_zero l)⟩
  · exact h0
  · exact ⟨by decide, h31 1 (by decide), fun i hi => absurd hi (Nat.not_lt_zero i)⟩
  · exact h31 4 (by decide)
  · exact h315
  · exact ⟨h182' 8 (by decide), h182' 9 (by decide), zrow_nil, zrow_nil, zrow_nil, zrow_nil⟩
  · exact h182
  · exact h182' 10 (by decide)
  · exact ⟨h182' 11 (by decide), h182' 12 (by decide), zprs_nil, zprs_nil⟩
  · exact fun c hc => ⟨fun _ => h182' (1604 + c) (by omega), fun h => absurd rfl h⟩
  · exact ⟨h182' 13 (by decide), h182' 14 (by decide), fun i p h => zni h, fun i p h => zni h⟩
  · exact h181 3 (by decide)
  · exact ⟨by decide, h181 7 (by decide), fun i hi => absurd hi (Nat.not_lt_zero i)⟩
  · exact h181 14 (by decide)
  · exact h18115
set_option maxRecDepth 100000 in
theorem zPL_len : zPL.length = 258 := by decide +kernel
theorem zPm_all : zPm (zPm (fun _ _ => none) 0 181) 181 258 = zP false := by
  funext a
  rcases Nat.lt_or_ge a 181 with g | g
  · rw [zPm_out (by omega), zPm_in (by omega)]
  · rcases Nat.lt_or_ge a 258 with g2 | g2
    · rw [zPm_in (by omega)]
    · rw [zPm_out (by omega), zPm_out (by omega)]
      exact (zPr0 (by omega) (by rw [List.getD_eq_getElem?_getD, List.getElem?_eq_none (by rw [zPL_len]; omega)]; rfl)).symm
set_option maxRecDepth 100000 in
theorem zsl_SH : zsl zSH ≤ 7302250 := by decide +kernel
theorem zpure {X : zv_X} (hX : X.1 ≤ 3072) : zPure X := by
  have hc0 : zcln 0 (fun _ _ => 0) (fun _ _ => 0) (fun _ _ => none) := fun a _ => ⟨rfl, rfl, rfl⟩
  obtain ⟨I', g1, g2, g3, g4⟩ := zi_GP X hc0
  generalize hI1 : zst (zst (zst I' 0 2 0) 31 5 (-1)) 178 1 1 = I1 at g1
  have f1 : ∀ c, c ≠ 0 → c ≠ 31 → c ≠ 178 → I1 c = I' c := fun c h1 h2 h3 => by rw [← hI1, zst_ne h3, zst_ne h2, zst_ne h1]
  have f2 : ∀ c, c ≠ 0 → c ≠ 6 → c ≠ 11 → c ≠ 21 → c ≠ 26 → c ≠ 31 → c ≠ 178 → I1 c = fun _ => 0 := fun c h1 h2 h3 h4 h5 h6 h7 => by rw [f1 c h1 h6 h7, g2 c h2 h3 h4 h5]
  have c1 : zcln 181 I1 (fun _ _ => 0) (zPm (fun _ _ => none) 0 181) := fun a ha => ⟨f2 a (by omega) (by omega) (by omega) (by omega) (by omega) (by omega) (by omega), rfl, zPm_out (by omega)⟩
  have g5 := zi_M X c1
  have e31 : ∀ j, j ≠ 5 → I1 31 j = 0 := fun j hj => by
    rw [← hI1, zst_ne (by decide), zst_off hj, zst_ne (by decide), g2 31 (by decide) (by decide) (by decide) (by decide)]
  have e315 : I1 31 5 = -1 := by rw [← hI1, zst_ne (by decide), zst_self]
  have e0 : I1 0 2 = 0 := by rw [← hI1, zst_ne (by decide), zst_ne (by decide), zst_self]
  generalize hI2 : (zst (zst (zst (zst (zst (zst (zst (zst I1 181 15 (-1)) 182 0 1) 182 1 1) 182 2 4) 182 3 8) 182 4 8) 182 5 64) 182 6 2) = I2 at g5
  have k1 : ∀ c, c ≠ 181 → c ≠ 182 → I2 c = I1 c := fun c h1 h2 => by
    rw [← hI2, zst_ne h2, zst_ne h2, zst_ne h2, zst_ne h2, zst_ne h2, zst_ne h2, zst_ne h2, zst_ne h1]
  have z182 : I1 182 = fun _ => 0 := f2 182 (by decide) (by decide) (by decide) (by decide) (by decide) (by decide) (by decide)
  have z181 : I1 181 = fun _ => 0 := f2 181 (by decide) (by decide) (by decide) (by decide) (by decide) (by decide) (by decide)
  have k181 : I2 181 = zst I1 181 15 (-1) 181 := by
    rw [← hI2, zst_ne (by decide), zst_ne (by decide), zst_ne (by decide), zst_ne (by decide), zst_ne (by decide), zst_ne (by decide), zst_ne (by decide)]
  have k182 : ∀ j, 7 ≤ j → I2 182 j = 0 := fun j hj => by
    rw [← hI2, zst_off (by omega), zst_off (by omega), zst_off (by omega), zst_off (by omega), zst_off (by omega), zst_off (by omega), zst_off (by omega), zst_ne (by decide), z182]
  have inv : zInv zt0 I2 (fun _ _ => 0) := by
    refine zInv0 (fun c h1 h2 h3 h4 h5 h6 h7 h8 h9 j => by rw [k1 c h8 h9, f2 c h1 h2 h3 h4 h5 h6 h7]) (fun j hj => by rw [k1 6 (by decide) (by decide), f1 6 (by decide) (by decide) (by decide), g3]; rfl) (fun i hi => by rw [k1 11 (by decide) (by decide), f1 11 (by decide) (by decide) (by decide)]; exact g4 i hi) (by rw [k1 0 (by decide) (by decide)]; exact e0) (fun j hj => by rw [k1 31 (by decide) (by decide)]; exact e31 j hj) (by rw [k1 31 (by decide) (by decide)]; exact e315) (fun j hj => by rw [k181, zst_off hj, z181]) (by rw [k181, zst_self]) (fun j hj => ?_) (fun j hj => k182 j (by omega))
    match j, hj with
    | 0, _ => rw [← hI2, zst_off (by decide), zst_off (by decide), zst_off (by decide), zst_off (by decide), zst_off (by decide), zst_off (by decide), zst_self]; rfl
    | 1, _ => rw [← hI2, zst_off (by decide), zst_off (by decide), zst_off (by decide), zst_off (by decide), zst_off (by decide), zst_self]; rfl
    | 2, _ => rw [← hI2, zst_off (by decide), zst_off (by decide), zst_off (by decide), zst_off (by decide), zst_self]; rfl
    | 3, _ => rw [← hI2, zst_off (by decide), zst_off (by decide), zst_off (by decide), zst_self]; rfl
    | 4, _ => rw [← hI2, zst_off (by decide), zst_off (by decide), zst_self]; rfl
    | 5, _ => rw [← hI2, zst_off (by decide), zst_self]; rfl
    | 6, _ => rw [← hI2, zst_self]; rfl
    | 7, _ => exact k182 7 (by decide)
    | j + 8, h => exact absurd h (by omega)
  obtain ⟨b, I3, J3, r⟩ := zl_law hX zt0 false I2 (fun _ _ => 0) inv
  have hK : zK 258 I2 (fun _ _ => 0) (zPm (zPm (fun _ _ => none) 0 181) 181 258) = zM false I2 (fun _ _ => 0) := by
    rw [zPm_all]
    show (zSH.take 258, I2, _, _) = (zSH, I2, _, _)
    rw [List.take_of_length_le (by rw [zSH_len]; exact Nat.le_refl _)]
  refine ⟨zM b I3 J3, ?_, ?_, ?_⟩
  · show zg_Law_law_0 X 0 (zK 0 (fun _ _ => 0) (fun _ _ => 0) (fun _ _ => none)) = _
    rw [zg_Law_law_0_e, zK_mk (n := 0) rfl hc0, zK_len (n := 0) (by decide), zK_ob (a := 0) (c := 11) (by decide) rfl, g1, zcv, zK_mk (n := 181) rfl c1, zK_len (n := 181) (by decide), zK_ob (a := 181) (c := 12) (by decide) rfl, g5, zcv, hK]
    exact r
  · show zSH.length ≤ 600000
    rw [zSH_len]; decide
  · exact zsl_SH
