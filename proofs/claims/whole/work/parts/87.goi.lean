/-! insert, remove, undo -/
section ZGI
variable (X : zv_X)
variable {K : zKL} {R : List Int32} {T : zTT} {C : Int32} {A U : zKL} {G : Nat → Int32} {P : List (Nat × Nat)} {B : List zBX} {r : zRr} {I : zI} {J : zJ} {b : Bool}
/-- the object's keys changed and the act noted -/
theorem c_act {x y : Int32} (h : zCJ ((K, R, T, C, A, U, G, P, B), r) I) (hK : zKV K) (hl : A.length + U.length ≤ 20) (h0 : 0 ≤ zcnt x K + y) (hn : zcnt x K = 0 → K.length < 300 ∧ 0 < zcnt x K + y) : ∃ I1 I2, zg_Keys_change_0 X 2 x y (zM b I J) = some (none, zM b I1 J) ∧ zg_Acts_note_0 X 7 x y (zM b I1 J) = some (none, zM b I2 J) ∧ zCJ ((zset x (zcnt x K + y) K, R, T, C, zAct A x y, [], G, P, B), r) I2 ∧ ∀ a, (a = 0 ∨ a = 6 ∨ 10 ≤ a) → I2 a = I a := by
  obtain ⟨I1, a1, a2, a3⟩ := s_change X (b := b) (J := J) (a := 2) (x := x) (y := y) (v := zcnt x K + y) (zKy_2 b) (show zKeys I 2 K from h.1.1) hK.1 rfl h0 hn
  have hs1 := zCS_keys h.1 a2 a3
  obtain ⟨I2, b1, b2, b3⟩ := c_note X (b := b) (J := J) (x := x) (y := y) (I := I1) (A := A) (U := U) hs1.2.2.2.2.2.1 hl
  have hs2 := zCS_acts hs1 b2 (fun a _ _ h7 h8 h9 => b3 a h7 h8 h9)
  have fr : ∀ a, (a = 0 ∨ a = 6 ∨ 10 ≤ a) → I2 a = I a := fun a ha => by rw [b3 a (by omega) (by omega) (by omega), a3 a (by omega) (by omega) (by omega)]
  exact ⟨I1, I2, a1, b1, zCJ_chg h hs2 (fun a ha => fr a (by omega)), fr⟩
/-- the reference's, likewise -/
theorem m_act {x y : Int32} (h : zMI ((K, R, T, C, A, U, G, P, B), r) I) (hK : zKV K) (hK' : zKV (zset x (zcnt x K + y) K)) (hR : zRv R) (hl : A.length + U.length ≤ 20) (hp : zPok P B) (h0 : 0 ≤ zcnt x K + y) : ∃ I1 I2, zg_M_counts_0 X 181 x (zcnt x K + y) (zM b I J) = some (none, zM b I1 J) ∧ zg_M_acts_0 X 181 x y (zM b I1 J) = some (none, zM b I2 J) ∧ zMI ((zset x (zcnt x K + y) K, R, T, C, zAct A x y, [], G, P, B), r) I2 ∧ ∀ a, a ≠ 182 → I2 a = I a := by
  obtain ⟨s1, s2, s3, s4, s5, s6⟩ := h.1
  obtain ⟨I1, a1, a2, a3⟩ := m_counts X (b := b) (J := J) (x := x) (v := zcnt x K + y) s1 (zKR_of hK hR) h0 hK'.2.1
  have s4' : zMA (I1 182) A U := zMA_fr (fun i hi => a3.2 i (by omega)) hl s4
  have hl' : A.length ≤ 20 := by omega
  obtain ⟨I2, b1, b2, b3, b4⟩ := m_acts X (b := b) (J := J) (x := x) (y := y) s4' hl'
  have fr : ∀ a, a ≠ 182 → I2 a = I a := fun a ha => by rw [b3 a ha, a3.1 a ha]
  refine ⟨I1, I2, a1, b1, zMI_w h ⟨zMK_fr (fun i hi => b4 i (by omega)) (zKR_of hK' hR) a2, fun j hj => ?_, ?_, b2, zMG_fr (fun i hi => ?_) s5, zMP_fr (fun i hi => ?_) hp s6⟩ (fun a ha _ _ => fr a ha), fr⟩
  · rw [b4 j (by omega), a3.2 j (by omega)]; exact s2 j hj
  · rw [b4 10 (by omega), a3.2 10 (by omega)]; exact s3
  · rw [b4 i (by omega), a3.2 i (by omega)]
  · rw [b4 i (by omega), a3.2 i (by omega)]
theorem zOK_act {x y : Int32} (h : zOK (K, R, T, C, A, U, G, P, B)) (hs : zSp K (x, y) (zset x (zcnt x K + y) K)) : zOK (zset x (zcnt x K + y) K, R, T, C, zAct A x y, [], G, P, B) := by
  obtain ⟨h1, h2, h3, h4, ⟨K0, h5⟩, h6, h7, h8, h9⟩ := h
  have h7' : A.length + U.length ≤ 20 := h7
  have hl := zAct_len (A := A) (x := x) (y := y) (by omega)
  exact ⟨hs.2.1, h2, h3, h4, zPth_act h5 hs, ⟨_, rfl⟩, by show (zAct A x y).length + 0 ≤ 20; omega, h8, h9⟩
theorem go_insert (x : Int32) : zGo (fun M => zg_GP_insert_0 X 0 x M) (fun M => zg_M_insert_0 X 181 x M) := fun t b I J hi => by
  obtain ⟨⟨K, R, T, C, A, U, G, P, B⟩, r⟩ := t
  have hok := hi.1.1
  obtain ⟨h1, h2, h3, h4, h5, h6, h7, h8, h9⟩ := id hok
  have h1 : zKV K := h1
  have h7 : A.length + U.length ≤ 20 := h7
  have hk : zKeys I 2 K := hi.2.1.1.1
  have hl := h1.2.1
  have hr := zcnt_rng (x := x) h1.2.2.1
  have e0 : (0 : Int32).toInt = 0 := rfl
  have e1 : (1 : Int32).toInt = 1 := rfl
  have e99 : (99 : Int32).toInt = 99 := rfl
  have e3 : (300 : Int32) = Int32.ofNat 300 := rfl
  have ev : (zcnt x K + 1).toInt = (zcnt x K).toInt + 1 := by rw [zi_add (by rw [e1]; omega) (by rw [e1]; omega), e1]
  have z0 : (¬ 0 < zcnt x K) ↔ zcnt x K = 0 := by rw [zi_lt, zi_eq, e0]; omega
  have z99 : 99 < zcnt x K + 1 ↔ zcnt x K = 99 := by rw [zi_lt, zi_eq, ev, e99]; omega
  have hKR := zKR_of h1 h2
  have ct := s_canTake X (b := b) (I := I) (J := J) (a := 2) (x := x) (zKy_2 b) hk h1.1 1
  by_cases c1 : x < -999999999 ∨ 999999999 < x
  · refine zGo_r0 hi (v := .int (-1)) ?_ (fun hm => ⟨I, J, ?_, hi.2.2, fun _ _ => ⟨rfl, rfl⟩⟩)
    · show zg_GP_insert_0 X 0 x (zM b I J) = _
      rw [zg_GP_insert_0_e, c_canBeKey, zci, zif01, if_pos c1, zg_GP_insert_22_e]
    · show zg_M_insert_0 X 181 x (zM b I J) = _
      rw [zg_M_insert_0_e, m_isNumber, zci, zif01, if_pos c1]
  · have hx := zbd9 c1
    have mst : ∀ (I : zI) (J : zJ), zMK (I 182) K R → zg_M_insert_0 X 181 x (zM b I J) = if zno K x 1 then some (some (.int (-1)), zM b I J) else zg_M_insert_37 X 181 x (zcnt x K) (zM b I J) := fun I J hmk => by
      rw [zg_M_insert_0_e, m_isNumber, zci, zif01, if_neg c1, zg_M_insert_9_e, zo181, m_count X hmk hKR, zci, zo181, m_keys X hmk hKR, zci, zg_M_insert_35_e, e3]
      unfold zno
      by_cases c2 : zcnt x K = 99
      · rw [if_pos c2, if_pos (Or.inl (z99.mpr c2))]
      · rw [if_neg c2]
        by_cases c3 : zcnt x K = 0
        · rw [if_pos c3]
          by_cases c4 : K.length = 300
          · rw [if_pos (by rw [c4]), if_pos (Or.inr ⟨z0.mpr c3, by omega⟩)]
          · rw [if_neg (fun q => c4 ((zn_eq (by omega) (by decide)).mp q)), if_neg (fun q => q.elim (fun q => c2 (z99.mp q)) (fun q => absurd q.2 (by omega)))]
        · rw [if_neg c3, if_neg (fun q => q.elim (fun q => c2 (z99.mp q)) (fun q => c3 (z0.mp q.1)))]
    by_cases c2 : zno K x 1
    · refine zGo_r0 hi (v := .int (-1)) ?_ (fun hm => ⟨I, J, ?_, hi.2.2, fun _ _ => ⟨rfl, rfl⟩⟩)
      · show zg_GP_insert_0 X 0 x (zM b I J) = _
        rw [zg_GP_insert_0_e, c_canBeKey, zci, zif01, if_neg c1, zo0, zM_P, zp0_0, zrf, zo1, zp1_0, zrf, zo2, ct, zci, if_pos c2, if_pos rfl, zg_GP_insert_22_e]
      · show zg_M_insert_0 X 181 x (zM b I J) = _
        rw [mst I J hm.1, if_pos c2]
    · obtain ⟨v1, v2, v3, v4⟩ := zcom_ok (y := 1) h1 hx (by decide) c2
      have hsp := zSp_mk (x := x) (y := 1) h1 (Or.inl rfl) v4 (fun _ => rfl)
      have hok' := zOK_act hok hsp
      obtain ⟨I1, I2, a1, a2, a3, a4⟩ := c_act X (b := b) (J := J) (x := x) (y := 1) (zCJ_of hi.2.1) h1 h7 (by rw [zi_le, e0]; omega) (fun q => ⟨v3 q, by rw [zi_lt, e0]; omega⟩)
      have hc' : zcnt x (zset x (zcnt x K + 1) K) = zcnt x K + 1 := by rw [zcnt_set h1.1, if_pos rfl]
      have hh := s_has X (b := b) (I := I) (J := J) (a := 2) (x := x) (zKy_2 b) hk h1.1
      have hz := zcnt_le0 (x := x) h1.2.2.1
      have hk2 : zKeys I2 2 (zset x (zcnt x K + 1) K) := a3.1.1
      have h12 : I2 1 2 = Int32.ofNat R.length := a3.1.2.1
      have h5' : zrow (I2 5) R := a3.1.2.2.1
      have h6' : ∀ j, j < 8 → I2 6 j = T j := a3.1.2.2.2.1
      obtain ⟨rm, rm1, rm2⟩ := zE_rm hok
      have rm1 : T 2 = Int32.ofNat rm := rm1
      have hst := c_stands X (b := b) (J := J) (x := x) (I := I2) h12 h5' h2.1 h2.2
      have hKR' := zKR_of v4 h2
      have hwt := c_waiting X (b := b) (J := J) hk2 hKR' h12 h5'
      have hwl := zWt_len (zset x (zcnt x K + 1) K) R
      have hl' := v4.2.1
      -- the object up to the question whether all is built
      have cst : zg_GP_insert_0 X 0 x (zM b I J) = if zcnt x K = 0 ∧ x ∉ R ∧ rm < (zWt (zset x (zcnt x K + 1) K) R).length then zv_cv (zg_GP_buildAll_0 X 0 (zM b I2 J)) (fun M16 => zg_GP_insert_106 X 0 x M16) else zg_GP_insert_106 X 0 x (zM b I2 J) := by
        have g43 : ∀ s0 : Int32, zg_GP_insert_43 X 0 x s0 (zM b I J) = if s0 = 0 then zg_GP_insert_106 X 0 x (zM b I2 J) else if x ∈ R then zg_GP_insert_106 X 0 x (zM b I2 J) else if Int32.ofNat (zWt (zset x (zcnt x K + 1) K) R).length ≤ T 2 then zg_GP_insert_106 X 0 x (zM b I2 J) else zv_cv (zg_GP_buildAll_0 X 0 (zM b I2 J)) (fun M16 => zg_GP_insert_106 X 0 x M16) := fun s0 => by
          rw [zg_GP_insert_43_e, zo0, zM_P, zp0_0, zrf, zo1, zp1_0, zrf, zo2, a1, zcv, zo0, zM_P, zp0_0, zrf, zo1, zp1_5, zrf, zo7, a2, zcv, zo0, zM_P, zp0_0, zrf, zo1, hst, zci, zif10, zo0, zM_P, zp0_0, zrf, zo1, hwt, zci, zo0, zM_P, zp0_0, zrf, zo1, zp1_3, zrf, zx6_2, zM_I, h6' 2 (by decide), zo0]
        rw [zg_GP_insert_0_e, c_canBeKey, zci, zif01, if_neg c1, zo0, zM_P, zp0_0, zrf, zo1, zp1_0, zrf, zo2, ct, zci, if_neg c2, if_neg (by decide), zg_GP_insert_24_e, zo0, zM_P, zp0_0, zrf, zo1, zp1_0, zrf, zo2, hh, zci, zif01, zg_GP_insert_42_e, g43, g43, if_neg (show ¬ (1 : Int32) = 0 by decide), if_pos (show (0 : Int32) = 0 from rfl), rm1]
        by_cases d1 : zcnt x K = 0
        · rw [if_pos (hz.mpr d1)]
          by_cases d2 : x ∈ R
          · rw [if_pos d2, if_neg (fun q => q.2.1 d2)]
          · rw [if_neg d2]
            by_cases d3 : rm < (zWt (zset x (zcnt x K + 1) K) R).length
            · rw [if_neg (fun q => absurd ((zn_le (by omega) (by omega)).mp q) (by omega)), if_pos ⟨d1, d2, d3⟩]
            · rw [if_pos ((zn_le (by omega) (by omega)).mpr (by omega)), if_neg (fun q => d3 q.2.2)]
        · rw [if_neg (fun q => d1 (hz.mp q)), if_neg (fun q => d1 q.1)]
      -- and the reference
      have mfin : ∀ (I0 : zI) (J0 : zJ), zMI ((K, R, T, C, A, U, G, P, B), r) I0 → ∃ I3, zMI ((zset x (zcnt x K + 1) K, R, T, C, zAct A x 1, [], G, P, B), r) I3 ∧ (∀ a, a ≠ 182 → I3 a = I0 a) ∧ zg_M_insert_0 X 181 x (zM b I0 J0) = if zcnt x K = 0 ∧ x ∉ R ∧ rm < (zWt (zset x (zcnt x K + 1) K) R).length then zv_ci (zg_M_builds_0 X 181 (zM b I3 J0)) (fun v16 M15 => zg_M_insert_109 X (zcnt x K) M15) else some (some (.int (zcnt x K + 1)), zM b I3 J0) := fun I0 J0 hm => by
        obtain ⟨I1', I3, m1, m2, m3, m4⟩ := m_act X (b := b) (J := J0) (x := x) (y := 1) hm h1 v4 h2 h7 h9 (by rw [zi_le, e0]; omega)
        refine ⟨I3, m3, m4, ?_⟩
        have k9 : I3 182 9 = Int32.ofNat (zWt (zset x (zcnt x K + 1) K) R).length := m3.1.1.2.1
        have k2 : I3 182 2 = T 2 := m3.1.2.1 2 (by decide)
        have e620 : (620 : Int32) = Int32.ofNat 620 := rfl
        obtain ⟨A', B', f1, f2, f3, f4⟩ := m_find X (b := b) (I := I3) (J := J0) (x := x) (L := zWt (zset x (zcnt x K + 1) K) R) (c := 620) e620 m3.1.1.2.2.2.2.1 (by omega) (zSrt_Wt v4.1)
        have hz109 : zg_M_insert_109 X (zcnt x K) (zM b I3 J0) = some (some (.int (zcnt x K + 1)), zM b I3 J0) := zg_M_insert_109_e X _ _
        rw [mst I0 J0 hm.1.1, if_neg c2, zg_M_insert_37_e, zo181, m1, zcv, zo181, m2, zcv]
        by_cases d1 : zcnt x K = 0
        · rw [if_pos d1, zo181, zM_P, zp181_0, zrf, zw_9, zo181, zrf, zw_2, zM_I, k9, k2, rm1]
          by_cases d3 : rm < (zWt (zset x (zcnt x K + 1) K) R).length
          · rw [if_neg (fun q => absurd ((zn_le (by omega) (by omega)).mp q) (by omega)), zo181, zrf, zw_9, zo181, zrf, zw_9, zo181, k9, f3, zci, zo181]
            rcases f4 with ⟨g1, g2, g3, -⟩ | ⟨cc, g1, g2, g3, -⟩
            · have d2 : x ∈ R := Classical.byContradiction fun q => by
                rw [zcnt_Wt q, hc'] at g3
                rw [g3, e0] at v1
                omega
              rw [g1, zci, if_pos rfl, hz109, if_neg (fun q => q.2.1 d2)]
            · have d2 : x ∉ R := fun q => by
                have hm' : (x, cc) ∈ zWt (zset x (zcnt x K + 1) K) R := by rw [g2]; simp
                have := (List.mem_filter.mp hm').2
                simp [zin, q] at this
              rw [g1, zci, if_neg (by decide), zo181, if_pos ⟨d1, d2, d3⟩]
          · rw [if_pos ((zn_le (by omega) (by omega)).mpr (by omega)), hz109, if_neg (fun q => d3 q.2.2)]
        · rw [if_neg d1, hz109, if_neg (fun q => d1 q.1)]
      by_cases d : zcnt x K = 0 ∧ x ∉ R ∧ rm < (zWt (zset x (zcnt x K + 1) K) R).length
      · obtain ⟨I3, J3, b1, b2, b3, b4⟩ := c_buildAll X (b := b) (J := J) a3 v4 h4
        have hk3 : zKeys I3 2 (zset x (zcnt x K + 1) K) := b2.1.1
        have hcn := s_countOf X (b := b) (I := I3) (J := J3) (a := 2) (x := x) (zKy_2 b) hk3 v4.1
        have hok2 : zOK (zset x (zcnt x K + 1) K, (zset x (zcnt x K + 1) K).map (·.1), T, C + Int32.ofNat (zset x (zcnt x K + 1) K).length, zAct A x 1, [], G, P, B) := by
          obtain ⟨q1, q2⟩ := zRv_own v4
          exact ⟨v4, q1, q2, h4, hok'.2.2.2.2.1, hok'.2.2.2.2.2.1, hok'.2.2.2.2.2.2.1, h8, h9⟩
        refine zGo_mk hi (t' := ((zset x (zcnt x K + 1) K, (zset x (zcnt x K + 1) K).map (·.1), T, C + Int32.ofNat (zset x (zcnt x K + 1) K).length, zAct A x 1, [], G, P, B), r)) (v := .int (zcnt x K + 1)) ⟨hok2, hi.1.2⟩ (b' := b) (I1 := I3) (J1 := J3) ?_ b2 (fun a ha => by rw [b3 a (by omega), a4 a (by omega)]) (fun hm => ?_)
        · show zg_GP_insert_0 X 0 x (zM b I J) = _
          rw [cst, if_pos d, b1, zcv, zg_GP_insert_106_e, zo0, zM_P, zp0_0, zrf, zo1, zp1_0, zrf, zo2, hcn, zci, hc']
        · obtain ⟨I4, m1, m2, m3⟩ := mfin I3 J3 hm
          obtain ⟨s1, s2, s3, s4, s5, s6⟩ := m1.1
          obtain ⟨I5, n1, n2, n3, n4, n5⟩ := m_builds X (b := b) (J := J3) s1 hKR'
          refine ⟨I5, J3, ?_, zMI_w m1 ⟨n2, fun j hj => ?_, ?_, zMA_fr (fun i hi => n5 i (by omega)) hok'.2.2.2.2.2.2.1 s4, zMG_fr (fun i hi => n5 i (by omega)) s5, zMP_fr (fun i hi => n5 i (by omega)) h9 s6⟩ n4, fun a ha => ⟨by rw [n4 a (by omega) (by omega) (by omega), m2 a (by omega)], rfl⟩⟩
          · show zg_M_insert_0 X 181 x (zM b I3 J3) = _
            rw [m3, if_pos d, n1, zci, zg_M_insert_109_e]
          · rw [n5 j (by omega)]; exact s2 j hj
          · show I5 182 10 = C + Int32.ofNat (zset x (zcnt x K + 1) K).length
            rw [n3]
            have : I4 182 10 = C := s3
            rw [this]
      · have hcn := s_countOf X (b := b) (I := I2) (J := J) (a := 2) (x := x) (zKy_2 b) hk2 v4.1
        refine zGo_mk hi (t' := ((zset x (zcnt x K + 1) K, R, T, C, zAct A x 1, [], G, P, B), r)) (v := .int (zcnt x K + 1)) ⟨hok', hi.1.2⟩ (b' := b) (I1 := I2) (J1 := J) ?_ ⟨a3.1, zCov_lo hi.2.1.2.1 (fun a q1 _ => ⟨a4 a (by omega), rfl⟩), a3.2⟩ (fun a ha => a4 a (by omega)) (fun hm => ?_)
        · show zg_GP_insert_0 X 0 x (zM b I J) = _
          rw [cst, if_neg d, zg_GP_insert_106_e, zo0, zM_P, zp0_0, zrf, zo1, zp1_0, zrf, zo2, hcn, zci, hc']
        · obtain ⟨I4, m1, m2, m3⟩ := mfin I2 J hm
          exact ⟨I4, J, by show zg_M_insert_0 X 181 x (zM b I2 J) = _; rw [m3, if_neg d], m1, fun a ha => ⟨m2 a (by omega), rfl⟩⟩
theorem go_remove (x : Int32) : zGo (fun M => zg_GP_remove_0 X 0 x M) (fun M => zg_M_remove_0 X 181 x M) := fun t b I J hi => by
  obtain ⟨⟨K, R, T, C, A, U, G, P, B⟩, r⟩ := t
  have hok := hi.1.1
  obtain ⟨h1, h2, h3, h4, h5, h6, h7, h8, h9⟩ := id hok
  have h1 : zKV K := h1
  have h7 : A.length + U.length ≤ 20 := h7
  have hk : zKeys I 2 K := hi.2.1.1.1
  have hr := zcnt_rng (x := x) h1.2.2.1
  have e0 : (0 : Int32).toInt = 0 := rfl
  have e1 : (-1 : Int32).toInt = -1 := rfl
  have hKR := zKR_of h1 h2
  have hh := s_has X (b := b) (I := I) (J := J) (a := 2) (x := x) (zKy_2 b) hk h1.1
  have hz := zcnt_le0 (x := x) h1.2.2.1
  by_cases c : zcnt x K = 0
  · refine zGo_r0 hi (v := .int (-1)) ?_ (fun hm => ⟨I, J, ?_, hi.2.2, fun _ _ => ⟨rfl, rfl⟩⟩)
    · show zg_GP_remove_0 X 0 x (zM b I J) = _
      rw [zg_GP_remove_0_e, zo0, zM_P, zp0_0, zrf, zo1, zp1_0, zrf, zo2, hh, zci, zif01, if_pos (hz.mpr c)]
    · show zg_M_remove_0 X 181 x (zM b I J) = _
      rw [zg_M_remove_0_e, zo181, m_count X hm.1 hKR, zci, if_pos c]
  · have hc1 : 1 ≤ (zcnt x K).toInt := by
      have : (zcnt x K).toInt ≠ 0 := fun q => c (zi_eq.mpr q)
      omega
    have ev : (zcnt x K + -1).toInt = (zcnt x K).toInt - 1 := by
      rw [zi_add (by rw [e1]; omega) (by rw [e1]; omega), e1]; omega
    have hx : -999999999 ≤ x.toInt ∧ x.toInt ≤ 999999999 := by
      obtain ⟨q, hq, e⟩ := zcnt_mem c
      rw [← e]; exact h1.2.2.2 q hq
    have v4 : zKV (zset x (zcnt x K + -1) K) := zKV_set h1 hx (by omega) (Or.inr (Or.inl c))
    have hsp := zSp_mk (x := x) (y := -1) h1 (Or.inr rfl) v4 (fun q => absurd q c)
    have hok' := zOK_act hok hsp
    have hc' : zcnt x (zset x (zcnt x K + -1) K) = zcnt x K + -1 := by rw [zcnt_set h1.1, if_pos rfl]
    have es : zcnt x K - 1 = zcnt x K + -1 := Int32.sub_eq_add_neg ..
    obtain ⟨I1, I2, a1, a2, a3, a4⟩ := c_act X (b := b) (J := J) (x := x) (y := -1) (zCJ_of hi.2.1) h1 h7 (by rw [zi_le, e0]; omega) (fun q => absurd q c)
    have hk2 : zKeys I2 2 (zset x (zcnt x K + -1) K) := a3.1.1
    have hcn := s_countOf X (b := b) (I := I2) (J := J) (a := 2) (x := x) (zKy_2 b) hk2 v4.1
    refine zGo_mk hi (t' := ((zset x (zcnt x K + -1) K, R, T, C, zAct A x (-1), [], G, P, B), r)) (v := .int (zcnt x K + -1)) ⟨hok', hi.1.2⟩ (b' := b) (I1 := I2) (J1 := J) ?_ ⟨a3.1, zCov_lo hi.2.1.2.1 (fun a q1 _ => ⟨a4 a (by omega), rfl⟩), a3.2⟩ (fun a ha => a4 a (by omega)) (fun hm => ?_)
    · show zg_GP_remove_0 X 0 x (zM b I J) = _
      rw [zg_GP_remove_0_e, zo0, zM_P, zp0_0, zrf, zo1, zp1_0, zrf, zo2, hh, zci, zif01, if_neg (fun q => c (hz.mp q)), zg_GP_remove_16_e, zo0, zM_P, zp0_0, zrf, zo1, zp1_0, zrf, zo2, a1, zcv, zo0, zM_P, zp0_0, zrf, zo1, zp1_5, zrf, zo7, a2, zcv, zo0, zM_P, zp0_0, zrf, zo1, zp1_0, zrf, zo2, hcn, zci, hc']
    · obtain ⟨I1', I3, m1, m2, m3, m4⟩ := m_act X (b := b) (J := J) (x := x) (y := -1) hm h1 v4 h2 h7 h9 (by rw [zi_le, e0]; omega)
      refine ⟨I3, J, ?_, m3, fun a ha => ⟨m4 a (by omega), rfl⟩⟩
      show zg_M_remove_0 X 181 x (zM b I2 J) = _
      rw [zg_M_remove_0_e, zo181, m_count X hm.1.1 hKR, zci, if_neg c, zg_M_remove_12_e, es, zo181, m1, zcv, zo181, m2, zcv]
end ZGI
