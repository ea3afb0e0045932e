/-! calls that change the state -/
section ZGC2
variable (X : zv_X)
abbrev zRr : Type := Option zS × (Nat → Nat) × Nat × Int32 × Int32
theorem zMI_mk {s s' : zS} {r : zRr} {I I' : zI} (h : zMI (s, r) I) (h1 : zMS (I' 182) s') (hf : I' 183 = I 183 ∧ I' 187 = I 187) (h4 : I' 181 3 = I 181 3 ∧ I' 181 7 = I 181 7 ∧ I' 181 14 = I 181 14 ∧ I' 181 15 = I 181 15) : zMI (s', r) I' := by
  obtain ⟨m1, m2, m3, m4, m5⟩ := h
  refine ⟨h1, ?_, ?_, by rw [h4.2.2.1]; exact m4, by rw [h4.2.2.2]; exact m5⟩
  · show zMim I' r.1
    have m2' : zMim I r.1 := m2
    cases hq : r.1 with
    | none =>
      rw [hq] at m2'
      show I' 181 3 = 0
      rw [h4.1]; exact m2'
    | some s =>
      rw [hq] at m2'
      exact ⟨by rw [h4.1]; exact m2'.1, by rw [hf.1]; exact m2'.2⟩
  · unfold zTMr at *
    rw [h4.2.1, hf.2]; exact m3
theorem zMI_w {s s' : zS} {r : zRr} {I I' : zI} (h : zMI (s, r) I) (h1 : zMS (I' 182) s') (hf : ∀ a, a ≠ 182 → a ≠ 185 → a ≠ 186 → I' a = I a) : zMI (s', r) I' := by
  have w : I' 181 = I 181 := hf 181 (by decide) (by decide) (by decide)
  exact zMI_mk h h1 ⟨hf 183 (by decide) (by decide) (by decide), hf 187 (by decide) (by decide) (by decide)⟩ ⟨by rw [w], by rw [w], by rw [w], by rw [w]⟩
variable {K : zKL} {R : List Int32} {T : zTT} {C : Int32} {A U : zKL} {G : Nat → Int32} {P : List (Nat × Nat)} {B : List zBX} {r : zRr} {I : zI} {J : zJ} {b : Bool}
theorem zMA_nil {f : Nat → Int32} (h1 : f 11 = 0) (h2 : f 12 = 0) : zMA f [] [] := ⟨by rw [h1]; rfl, by rw [h2]; rfl, fun i q hq => by simp at hq, fun i q hq => by simp at hq⟩
theorem m_rebuild (h : zMI ((K, R, T, C, A, U, G, P, B), r) I) (hK : zKV K) (hR : zRv R) (hp : zPok P B) : ∃ I', zg_M_build_0 X 181 (zM b I J) = some (some (.int (Int32.ofNat K.length)), zM b I' J) ∧ zMI ((K, K.map (·.1), T, C + Int32.ofNat K.length, [], [], G, P, B), r) I' ∧ ∀ a, a < 181 → I' a = I a ∧ J a = J a := by
  obtain ⟨s1, s2, s3, s4, s5, s6⟩ := h.1
  obtain ⟨I', q1, q2, q3, q4, q5, q6, q7⟩ := m_build2 X (b := b) (J := J) s1 (zKR_of hK hR)
  refine ⟨I', q1, zMI_w h ⟨q2, fun j hj => ?_, ?_, zMA_nil q4 q5, zMG_fr (fun i hi => q7 i (by omega)) s5, zMP_fr (fun i hi => q7 i (by omega)) hp s6⟩ q6, fun a ha => ⟨q6 a (by omega) (by omega) (by omega), rfl⟩⟩
  · rw [q7 j (by omega)]; exact s2 j hj
  · show I' 182 10 = C + Int32.ofNat K.length
    rw [q3]
    have : I 182 10 = C := s3
    rw [this]
theorem zOK_built (h : zOK (K, R, T, C, A, U, G, P, B)) {C' : Int32} : zOK (K, K.map (·.1), T, C', [], [], G, P, B) := by
  obtain ⟨h1, h2, h3, h4, h5, h6, h7, h8, h9⟩ := h
  obtain ⟨q1, q2⟩ := zRv_own (show zKV K from h1)
  exact ⟨h1, q1, q2, h4, ⟨K, rfl⟩, ⟨K, rfl⟩, Nat.zero_le _, h8, h9⟩
theorem go_build : zGo (fun M => zg_GP_build_0 X 0 M) (fun M => zg_M_build_0 X 181 M) := fun t b I J hi => by
  obtain ⟨⟨K, R, T, C, A, U, G, P, B⟩, r⟩ := t
  have hok := hi.1.1
  obtain ⟨h1, h2, h3, h4, h5, h6, h7, h8, h9⟩ := id hok
  obtain ⟨I1, J1, a1, a2, a3, a4⟩ := c_buildAll X (b := b) (J := J) (c_forget2 (zCJ_of hi.2.1)) h1 h4
  refine zGo_mk hi (t' := ((K, K.map (·.1), T, C + Int32.ofNat K.length, [], [], G, P, B), r)) (v := .int (Int32.ofNat K.length)) ⟨zOK_built hok, hi.1.2⟩ (b' := b) (I1 := I1) (J1 := J1) ?_ a2 (fun a ha => by rw [a3 a (by omega), zst_ne (by omega), zst_ne (by omega)]) (fun hm => ?_)
  · show zg_GP_build_0 X 0 (zM b I J) = _
    rw [zg_GP_build_0_e, zo0, zM_P, zp0_0, zrf, zo1, zp1_5, zrf, zo7, c_forget, zcv, zo0, a1, zcv, zo0, zM_P, zp0_0, zrf, zo1, zM_I, a4]
  · obtain ⟨I2, b1, b2, b3⟩ := m_rebuild X (b := b) (J := J1) hm h1 h2 h9
    exact ⟨I2, J1, b1, b2, b3⟩
/-! told -/
def zlo32 : List Int32 := [0, 0, 0, 1, 2, 8, 1, 0]
def zhi32 : List Int32 := [20, 20, 50, 99, 99, 512, 4, 99999]
theorem zcs8 {k : Nat} (h : k < 8) : k = 0 ∨ k = 1 ∨ k = 2 ∨ k = 3 ∨ k = 4 ∨ k = 5 ∨ k = 6 ∨ k = 7 := by omega
theorem zlh {k : Nat} (h : k < 8) : (zlo32.getD k 0).toInt = zlo.getD k 0 ∧ (zhi32.getD k 0).toInt = zhi.getD k 0 := by
  rcases zcs8 h with rfl | rfl | rfl | rfl | rfl | rfl | rfl | rfl <;> exact ⟨rfl, rfl⟩
theorem c_canBeTold {k : Nat} {v : Int32} (hk : k < 8) (M : zv_M) : zg_GP_canBeTold_0 X (Int32.ofNat k) v M = some (some (.int (if v < zlo32.getD k 0 ∨ zhi32.getD k 0 < v then 0 else 1)), M) := by
  have o2 : ∀ {kk : Int32 → Option zv_R}, zv_ox X 2 (Int32.ofNat k) kk = kk (zlo32.getD k 0) := by
    rcases zcs8 hk with rfl | rfl | rfl | rfl | rfl | rfl | rfl | rfl <;> exact fun {kk} => rfl
  have o3 : ∀ {kk : Int32 → Option zv_R}, zv_ox X 3 (Int32.ofNat k) kk = kk (zhi32.getD k 0) := by
    rcases zcs8 hk with rfl | rfl | rfl | rfl | rfl | rfl | rfl | rfl <;> exact fun {kk} => rfl
  rw [zg_GP_canBeTold_0_e, if_neg (fun q => absurd ((zkl0 (by omega)).mp q) (by omega)), if_neg (fun q => absurd ((zkh8 (by omega)).mp q) (by omega)), o2, o3, zg_GP_canBeTold_32_e, zg_GP_canBeTold_33_e, zg_GP_canBeTold_33_e, zrb0, zrb1]
  by_cases c : v < zlo32.getD k 0
  · rw [if_pos c, if_pos (Or.inl c)]
  · rw [if_neg c]
    by_cases d : zhi32.getD k 0 < v
    · rw [if_pos d, if_pos (Or.inr d)]
    · rw [if_neg d, if_neg (fun q => q.elim c d)]
theorem m_set12 {k : Nat} {v : Int32} (hk : k < 8) (M : zv_M) : zg_M_set_12 X 181 (Int32.ofNat k) v M = zg_M_set_101 X 181 (Int32.ofNat k) v (zlo32.getD k 0) (zhi32.getD k 0) M := by
  rcases zcs8 hk with rfl | rfl | rfl | rfl | rfl | rfl | rfl | rfl
  · rw [zg_M_set_12_e, if_neg (by decide), if_neg (by decide), zg_M_set_27_e, if_neg (by decide), zg_M_set_36_e, if_neg (by decide), zg_M_set_46_e, zg_M_set_47_e, if_neg (by decide)]; rfl
  · rw [zg_M_set_12_e, if_neg (by decide), if_neg (by decide), zg_M_set_27_e, if_neg (by decide), zg_M_set_36_e, if_neg (by decide), zg_M_set_46_e, zg_M_set_47_e, if_neg (by decide)]; rfl
  · rw [zg_M_set_12_e, if_neg (by decide), if_neg (by decide), zg_M_set_27_e, if_neg (by decide), zg_M_set_36_e, if_neg (by decide), zg_M_set_46_e, zg_M_set_47_e, if_pos (by decide), zg_M_set_58_e, if_pos (by decide)]; rfl
  · rw [zg_M_set_12_e, if_pos (by decide), zg_M_set_23_e, zg_M_set_47_e, if_pos (by decide), zg_M_set_58_e, if_neg (by decide), zg_M_set_68_e, if_neg (by decide)]; rfl
  · rw [zg_M_set_12_e, if_neg (by decide), if_neg (by decide), zg_M_set_27_e, if_pos (by decide), zg_M_set_47_e, if_pos (by decide), zg_M_set_58_e, if_neg (by decide), zg_M_set_68_e, if_neg (by decide)]; rfl
  · rw [zg_M_set_12_e, if_neg (by decide), if_neg (by decide), zg_M_set_27_e, if_neg (by decide), zg_M_set_36_e, if_pos (by decide), zg_M_set_47_e, if_pos (by decide), zg_M_set_58_e, if_neg (by decide), zg_M_set_68_e, if_pos (by decide), zg_M_set_78_e, if_pos (by decide)]; rfl
  · rw [zg_M_set_12_e, if_neg (by decide), if_pos (by decide), zg_M_set_23_e, zg_M_set_47_e, if_pos (by decide), zg_M_set_58_e, if_neg (by decide), zg_M_set_68_e, if_pos (by decide), zg_M_set_78_e, if_neg (by decide), zg_M_set_89_e, if_pos (by decide)]; rfl
  · rw [zg_M_set_12_e, if_neg (by decide), if_neg (by decide), zg_M_set_27_e, if_neg (by decide), zg_M_set_36_e, if_neg (by decide), zg_M_set_46_e, zg_M_set_47_e, if_pos (by decide), zg_M_set_58_e, if_neg (by decide), zg_M_set_68_e, if_pos (by decide), zg_M_set_78_e, if_neg (by decide), zg_M_set_89_e, if_neg (by decide), zg_M_set_99_e]; rfl
theorem zCS_told {k : Nat} {v : Int32} (h : zCS I 0 (K, R, T, C, A, U, G, P, B)) : zCS (zst I 6 k v) 0 (K, R, zTu T k v, C, A, U, G, P, B) := by
  obtain ⟨s1, s2, s3, s4, s5, s6, s7, s8⟩ := h
  refine ⟨?_, ?_, ?_, ?_, ?_, ?_, ?_, ?_⟩
  · show zKeys (zst I 6 k v) 2 K
    unfold zKeys at *
    rw [zst_ne (by decide), zst_ne (by decide), zst_ne (by decide)]
    exact s1
  · show zst I 6 k v 1 2 = _
    rw [zst_ne (by decide)]; exact s2
  · show zrow (zst I 6 k v 5) R
    rw [zst_ne (by decide)]; exact s3
  · show ∀ j, j < 8 → zst I 6 k v 6 j = zTu T k v j
    intro j hj
    unfold zTu
    by_cases c : j = k
    · rw [if_pos c, c, zst_self]
    · rw [if_neg c, zst_off c]; exact s4 j hj
  · show zst I 6 k v 1 4 = C
    rw [zst_ne (by decide)]; exact s5
  · show zCA (zst I 6 k v) 0 A U
    unfold zCA at *
    rw [zst_ne (by decide), zst_ne (by decide), zst_ne (by decide)]; exact s6
  · show zCG (zst I 6 k v) 0 G
    unfold zCG at *
    rw [zst_ne (by decide)]; exact s7
  · show zCP (zst I 6 k v) 0 P B
    unfold zCP at *
    rw [zst_ne (by decide), zst_ne (by decide), zst_ne (by decide), zst_ne (by decide)]; exact s8
theorem zMS_told {f : Nat → Int32} {k : Nat} {v : Int32} (hk : k < 8) (hK : zKV K) (hR : zRv R) (hl : A.length + U.length ≤ 20) (hp : zPok P B) (h : zMS (I 182) (K, R, T, C, A, U, G, P, B)) : zMS (zst I 182 k v 182) (K, R, zTu T k v, C, A, U, G, P, B) := by
  obtain ⟨s1, s2, s3, s4, s5, s6⟩ := h
  have e : ∀ i, 8 ≤ i → zst I 182 k v 182 i = I 182 i := fun i hi => zst_off (by omega)
  refine ⟨zMK_fr (fun i hi => e i (by omega)) (zKR_of hK hR) s1, fun j hj => ?_, (e 10 (by omega)).trans s3, zMA_fr (fun i hi => e i (by omega)) hl s4, zMG_fr (fun i hi => e i (by omega)) s5, zMP_fr (fun i hi => e i (by omega)) hp s6⟩
  show zst I 182 k v 182 j = zTu T k v j
  unfold zTu
  by_cases c : j = k
  · rw [if_pos c, c, zst_self]
  · rw [if_neg c, zst_off c]; exact s2 j hj
theorem go_set (w v : Int32) : zGo (fun M => zg_GP_set_0 X 0 w v M) (fun M => zg_M_set_0 X 181 w v M) := fun t b I J hi => by
  obtain ⟨⟨K, R, T, C, A, U, G, P, B⟩, r⟩ := t
  have hok := hi.1.1
  obtain ⟨h1, h2, h3, h4, h5, h6, h7, h8, h9⟩ := id hok
  have e0 : (0 : Int32).toInt = 0 := rfl
  have e7 : (7 : Int32).toInt = 7 := rfl
  have e8 : (8 : Int32).toInt = 8 := rfl
  by_cases cw : w.toInt < 0 ∨ 8 ≤ w.toInt
  · refine zGo_r0 hi (v := .int 0) ?_ (fun hm => ⟨I, J, ?_, hi.2.2, fun _ _ => ⟨rfl, rfl⟩⟩)
    · show zg_GP_set_0 X 0 w v (zM b I J) = _
      have : zg_GP_canBeTold_0 X w v (zM b I J) = some (some (.int 0), zM b I J) := by
        rw [zg_GP_canBeTold_0_e, zg_GP_canBeTold_32_e, zg_GP_canBeTold_33_e, zrb0]
        by_cases c : w < 0
        · rw [if_pos c]
        · rw [if_neg c, if_pos (by rw [zi_lt, e0] at c; rw [zi_le, e8]; omega)]
      rw [zg_GP_set_0_e, this, zci, if_pos rfl, zrb0]
    · show zg_M_set_0 X 181 w v (zM b I J) = _
      rw [zg_M_set_0_e, m_isIn, zci, zif01, if_pos (by rw [zi_lt, zi_lt, e0, e7]; omega), zrb0]
  · obtain ⟨k, hk, rfl, -⟩ := zidx (show ¬ w < 0 by rw [zi_lt, e0]; omega)
    have hki : (Int32.ofNat k).toInt = k := zn_int hk
    rw [hki] at cw
    have hk8 : k < 8 := by omega
    have mst : ∀ (I : zI), zg_M_set_0 X 181 (Int32.ofNat k) v (zM b I J) = if v < zlo32.getD k 0 ∨ zhi32.getD k 0 < v then some (some (.int 0), zM b I J) else zg_M_set_115 X 181 (Int32.ofNat k) v (zM b I J) := fun I => by
      rw [zg_M_set_0_e, m_isIn, zci, zif01, if_neg (by rw [zi_lt, zi_lt, e0, e7, hki]; omega), m_set12 X hk8, zg_M_set_101_e, m_isIn, zci, zif01, zrb0]
    by_cases cv : v < zlo32.getD k 0 ∨ zhi32.getD k 0 < v
    · refine zGo_r0 hi (v := .int 0) ?_ (fun hm => ⟨I, J, ?_, hi.2.2, fun _ _ => ⟨rfl, rfl⟩⟩)
      · show zg_GP_set_0 X 0 (Int32.ofNat k) v (zM b I J) = _
        rw [zg_GP_set_0_e, c_canBeTold X hk8, zci, zif01, if_pos cv, zrb0]
      · show zg_M_set_0 X 181 (Int32.ofNat k) v (zM b I J) = _
        rw [mst, if_pos cv]
    · have hT' : zTok (zTu T k v) := fun j hj => by
        unfold zTu
        by_cases c : j = k
        · rw [if_pos c, c]
          obtain ⟨q1, q2⟩ := zlh hk8
          rw [zi_lt, zi_lt, q1, q2] at cv
          omega
        · rw [if_neg c]; exact h4 j hj
      have hJ := zCJ_of hi.2.1
      have hCS := zCS_told (k := k) (v := v) hJ.1
      have hJ' : zCJ ((K, R, zTu T k v, C, A, U, G, P, B), r) (zst I 6 k v) := zCJ_chg hJ hCS (fun a ha => zst_ne (by omega))
      have hok' : zOK (K, R, zTu T k v, C, A, U, G, P, B) := ⟨h1, h2, h3, hT', h5, h6, h7, h8, h9⟩
      have hm0 : ∀ I1, zMI ((K, R, T, C, A, U, G, P, B), r) I1 → zMI ((K, R, zTu T k v, C, A, U, G, P, B), r) (zst I1 182 k v) := fun I1 hm => zMI_w hm (zMS_told (f := fun _ => 0) hk8 h1 h2 h7 h9 hm.1) (fun a ha _ _ => zst_ne ha)
      have c10 : zg_GP_set_0 X 0 (Int32.ofNat k) v (zM b I J) = if k < 2 then zg_GP_set_29 X 0 (zM b (zst I 6 k v) J) else zg_GP_set_43 X (zM b (zst I 6 k v) J) := by
        rw [zg_GP_set_0_e, c_canBeTold X hk8, zci, zif01, if_neg cv, zg_GP_set_10_e, zo0, zM_P, zp0_0, zrf, zo1, zp1_3, zrf, zx6 hk8, zM_wI]
        by_cases c0 : k = 0
        · rw [if_pos (by rw [c0]; rfl), if_pos (by omega)]
        · rw [if_neg (fun q => c0 ((zke0 (by omega)).mp q))]
          by_cases c1 : k = 1
          · rw [if_pos (by rw [c1]; rfl), if_pos (by omega)]
          · rw [if_neg (fun q => c1 ((zke1 (by omega)).mp q)), if_neg (by omega)]
      by_cases ck : k < 2
      · obtain ⟨I1, J1, a1, a2, a3, a4⟩ := c_buildAll X (b := b) (J := J) (c_forget2 hJ') h1 hT'
        refine zGo_mk hi (t' := ((K, K.map (·.1), zTu T k v, C + Int32.ofNat K.length, [], [], G, P, B), r)) (v := .int 1) ⟨zOK_built hok', hi.1.2⟩ (b' := b) (I1 := I1) (J1 := J1) ?_ a2 (fun a ha => by rw [a3 a (by omega), zst_ne (by omega), zst_ne (by omega), zst_ne (by omega)]) (fun hm => ?_)
        · show zg_GP_set_0 X 0 (Int32.ofNat k) v (zM b I J) = _
          rw [c10, if_pos ck, zg_GP_set_29_e, zo0, zM_P, zp0_0, zrf, zo1, zp1_5, zrf, zo7, c_forget, zcv, zo0, a1, zcv, zg_GP_set_43_e, zrb1]
        · obtain ⟨I2, b1, b2, b3⟩ := m_rebuild X (b := b) (J := J1) (hm0 I1 hm) h1 h2 h9
          refine ⟨I2, J1, ?_, b2, fun a ha => ⟨by rw [(b3 a ha).1, zst_ne (by omega)], rfl⟩⟩
          show zg_M_set_0 X 181 (Int32.ofNat k) v (zM b I1 J1) = _
          have mst' : zg_M_set_0 X 181 (Int32.ofNat k) v (zM b I1 J1) = zg_M_set_115 X 181 (Int32.ofNat k) v (zM b I1 J1) := by
            rw [zg_M_set_0_e, m_isIn, zci, zif01, if_neg (by rw [zi_lt, zi_lt, e0, e7, hki]; omega), m_set12 X hk8, zg_M_set_101_e, m_isIn, zci, zif01, if_neg cv]
          rw [mst', zg_M_set_115_e, zo181, zM_P, zp181_0, zrf, zx182 (by omega), if_neg (fun q => absurd ((zkh2 (by omega)).mp q) (by omega)), zM_wI, zo181, b1, zci, zg_M_set_132_e, zrb1]
      · refine zGo_mk hi (t' := ((K, R, zTu T k v, C, A, U, G, P, B), r)) (v := .int 1) ⟨hok', hi.1.2⟩ (b' := b) (I1 := zst I 6 k v) (J1 := J) ?_ ⟨hJ'.1, ?_, hJ'.2⟩ (fun a ha => zst_ne (by omega)) (fun hm => ?_)
        · show zg_GP_set_0 X 0 (Int32.ofNat k) v (zM b I J) = _
          rw [c10, if_neg ck, zg_GP_set_43_e, zrb1]
        · have := zCov_lo hi.2.1.2.1 (I' := zst I 6 k v) (J' := J) (fun a h1 _ => ⟨zst_ne (by omega), rfl⟩)
          have ee : zEe (K, R, zTu T k v, C, A, U, G, P, B) = zEe (K, R, T, C, A, U, G, P, B) := by
            show (zTu T k v 0).toInt.toNat = (T 0).toInt.toNat
            unfold zTu; rw [if_neg (by omega)]
          have eu : zEu (K, R, zTu T k v, C, A, U, G, P, B) = zEu (K, R, T, C, A, U, G, P, B) := by
            show (zTu T k v 1).toInt.toNat = (T 1).toInt.toNat
            unfold zTu; rw [if_neg (by omega)]
          show ∃ H, H ≤ 9 ∧ zCov (zst I 6 k v) J 40 (zrf' R) R.length (zEe (K, R, zTu T k v, C, A, U, G, P, B)) (zEu (K, R, zTu T k v, C, A, U, G, P, B)) H
          rw [ee, eu]; exact this
        · refine ⟨zst (zst I 6 k v) 182 k v, J, ?_, hm0 _ hm, fun a ha => ⟨zst_ne (by omega), rfl⟩⟩
          show zg_M_set_0 X 181 (Int32.ofNat k) v (zM b (zst I 6 k v) J) = _
          rw [mst, if_neg cv, zg_M_set_115_e, zo181, zM_P, zp181_0, zrf, zx182 (by omega), if_pos ((zkh2 (by omega)).mpr (by omega)), zM_wI, zg_M_set_132_e, zrb1]
end ZGC2
