/-! undo; the row with gaps; points and boxes -/
section ZGU
variable (X : zv_X)
variable {K : zKL} {R : List Int32} {T : zTT} {C : Int32} {A U : zKL} {G : Nat → Int32} {P : List (Nat × Nat)} {B : List zBX} {r : zRr} {I : zI} {J : zJ} {b : Bool}
theorem m_undo38 {S0 : zKL} {q : Int32 × Int32} {c d : Nat} {l1 l2 l3 : Int32} (h2 : l2 = Int32.ofNat c) (h3 : l3 = Int32.ofNat d) (hc : c < 20) (hd : 1220 ≤ d ∧ d + 40 ≤ 1668) (hS : I 182 c = Int32.ofNat (S0.length + 1)) (hp : zprs (I 182) d (S0 ++ [q])) (hl : S0.length + 1 ≤ 20) : zg_M_undo_25 X 181 l1 l2 l3 (zM b I J) = if l1 = 0 then zg_M_undo_109 X 181 l1 q.1 q.2 1220 11 181 (zM b (zst I 182 c (Int32.ofNat S0.length)) J) else zg_M_undo_109 X 181 l1 q.1 q.2 1260 12 181 (zM b (zst I 182 c (Int32.ofNat S0.length)) J) := by
  have hq := hp S0.length q (by simp)
  have e2 : (2 : Int32) = Int32.ofNat 2 := rfl
  have nz : ¬ Int32.ofNat (S0.length + 1) = 0 := fun w => absurd ((zke0 (by omega)).mp w) (by omega)
  have es : Int32.ofNat (S0.length + 1) - 1 = Int32.ofNat S0.length := by rw [zn_sub1 (by omega)]; rfl
  have ev : ∀ i, i ≠ c → zst I 182 c (Int32.ofNat S0.length) 182 i = I 182 i := fun i hi => zst_off hi
  rw [zg_M_undo_25_e, zo181, zM_P, zp181_0, zrf, h2, zx182 (by omega), zM_I, hS, if_neg nz, zg_M_undo_38_e, zo181, zM_P, zp181_0, zrf, zx182 (by omega), zx182 (by omega), zM_I, hS, es, zM_wI, zo181, zM_P, zp181_0, zrf, zo181, zrf, zx182 (by omega), zM_I, zst_self, h3, e2, zn_mul, zn_add, zx182 (by omega), zo181, zrf, zo181, zrf, zx182 (by omega), zst_self, zn_mul, zn_add, zn_add1, zx182 (by omega), ev _ (by omega), ev _ (by omega), hq.1, hq.2, zg_M_undo_94_e, zg_M_undo_96_e, zg_M_undo_96_e, zg_M_undo_106_e]
  by_cases w : l1 = 0
  · rw [if_pos w, if_pos w, if_pos w]
  · rw [if_neg w, if_neg w, if_neg w]
theorem zSp_len {q : Int32 × Int32} {K K' : zKL} (h : zSp K q K') (h0 : zcnt q.1 K = 0) : K.length < 300 := by
  obtain ⟨h1, h2, h3, h4, h5, h6, h7⟩ := h
  have := h6 h0
  have hv : zcnt q.1 K + q.2 ≠ 0 := by rw [h0, this]; decide
  have := (zset_len (x := q.1) h1.1 (v := zcnt q.1 K + q.2)).2 hv h0 h1.2.2.1
  have l2 := h2.2.1
  rw [← h4] at this
  omega
theorem zSp_len2 {q : Int32 × Int32} {K K' : zKL} (h : zSp K q K') (h0 : zcnt q.1 K' = 0) : K'.length < 300 ∧ zcnt q.1 K = 1 := by
  obtain ⟨h1, h2, h3, h4, h5, h6, h7⟩ := h
  have hr := zcnt_rng (x := q.1) h1.2.2.1
  have e1 : (1 : Int32).toInt = 1 := rfl
  have em : (-1 : Int32).toInt = -1 := rfl
  have e0 : (0 : Int32).toInt = 0 := rfl
  rw [h0] at h7
  have hz := congrArg Int32.toInt h7
  rcases h3 with c | c
  · rw [c, zi_add (by rw [e1]; omega) (by rw [e1]; omega), e0, e1] at hz
    omega
  · rw [c, zi_add (by rw [em]; omega) (by rw [em]; omega), e0, em] at hz
    have k1 : zcnt q.1 K = 1 := zi_eq.mpr (by rw [e1]; omega)
    refine ⟨?_, k1⟩
    have hv : zcnt q.1 K' - q.2 ≠ 0 := by rw [h0, c]; decide
    have := (zset_len (x := q.1) h2.1 (v := zcnt q.1 K' - q.2)).2 hv h0 h2.2.2.1
    rw [← h5] at this
    have := h1.2.1
    omega
/-- one change back or on, both sides: keys K to K' -/
theorem z_undo {back x y : Int32} {K' A' U' : zKL} {t : zST} (ht : t = ((K, R, T, C, A, U, G, P, B), r)) (hi : zInv t I J) (hK' : K' = zset x (zcnt x K + y) K) (hv : zKV K') (hcn : zcnt x K + y = zcnt x K') (hn : zcnt x K = 0 → K.length < 300 ∧ 0 < zcnt x K + y) (hok : zOK (K', R, T, C, A', U', G, P, B)) {I1 : zI} (hA : zCA I1 0 A' U') (hI1 : ∀ a, a ≠ 7 → I1 a = I a) (hco : zg_GP_undo_0 X 0 back (zM b I J) = zg_GP_undo_72 X x y x 2 (zM b I1 J)) (hmo : ∀ I0 J0, zMI t I0 → ∃ I2, zMA (I2 182) A' U' ∧ (∀ a, a ≠ 182 → I2 a = I0 a) ∧ (∀ i, i ≠ 11 → i ≠ 12 → (i < 1220 ∨ 1300 ≤ i) → I2 182 i = I0 182 i) ∧ zg_M_undo_0 X 181 back (zM b I0 J0) = zv_ci (zg_M_count_0 X 181 x (zM b I2 J0)) (fun v3 M2 => zg_M_undo_137 X x y v3 x 181 M2)) : ∃ v b' I1 J1 I2 J2 t', zkdV 0 v ∧ (fun M => zg_GP_undo_0 X 0 back M) (zM b I J) = some (some v, zM b' I1 J1) ∧ (fun M => zg_M_undo_0 X 181 back M) (zM b' I1 J1) = some (some v, zM b' I2 J2) ∧ zInv t' I2 J2 := by
  subst ht
  have hok0 := hi.1.1
  obtain ⟨h1, h2, h3, h4, h5, h6, h7, h8, h9⟩ := id hok0
  have h1 : zKV K := h1
  have e0 : (0 : Int32).toInt = 0 := rfl
  have hge : 0 ≤ zcnt x K + y := by
    have := zcnt_rng (x := x) hv.2.2.1
    rw [zi_le, e0, hcn]; omega
  have hJ := zCJ_of hi.2.1
  have hs1 := zCS_acts hJ.1 hA (fun a _ _ h7 _ _ => hI1 a h7)
  have hk1 : zKeys I1 2 K := hs1.1
  obtain ⟨I2, a1, a2, a3⟩ := s_change X (b := b) (J := J) (a := 2) (x := x) (y := y) (v := zcnt x K + y) (zKy_2 b) hk1 h1.1 rfl hge hn
  rw [← hK'] at a2
  have hs2 := zCS_keys hs1 a2 a3
  have fr : ∀ a, (a = 0 ∨ a = 1 ∨ a = 5 ∨ a = 6 ∨ 8 ≤ a) → I2 a = I a := fun a ha => by rw [a3 a (by omega) (by omega) (by omega), hI1 a (by omega)]
  have hJ2 := zCJ_chg hJ hs2 (fun a ha => fr a (by omega))
  refine zGo_mk hi (t' := ((K', R, T, C, A', U', G, P, B), r)) (v := .int x) ⟨hok, hi.1.2⟩ (b' := b) (I1 := I2) (J1 := J) ?_ ⟨hJ2.1, zCov_lo hi.2.1.2.1 (fun a q1 _ => ⟨fr a (by omega), rfl⟩), hJ2.2⟩ (fun a ha => fr a (by omega)) (fun hm => ?_)
  · show zg_GP_undo_0 X 0 back (zM b I J) = _
    rw [hco, zg_GP_undo_72_e, zo2, a1, zcv]
  · obtain ⟨I3, c1, c2, c3, c4⟩ := hmo I2 J hm
    obtain ⟨s1, s2, s3, s4, s5, s6⟩ := hm.1
    have hmk : zMK (I3 182) K R := zMK_fr (fun i hi => c3 i (by omega) (by omega) (by omega)) (zKR_of h1 h2) s1
    obtain ⟨I4, d1, d2, d3⟩ := m_counts X (b := b) (J := J) (I := I3) (x := x) (v := zcnt x K + y) hmk (zKR_of h1 h2) hge (by rw [← hK']; exact hv.2.1)
    rw [← hK'] at d2
    refine ⟨I4, J, ?_, zMI_w hm ⟨d2, fun j hj => ?_, ?_, zMA_fr (fun i hi => d3.2 i (by omega)) hok.2.2.2.2.2.2.1 c1, zMG_fr (fun i hi => ?_) s5, zMP_fr (fun i hi => ?_) h9 s6⟩ (fun a ha _ _ => by rw [d3.1 a ha, c2 a ha]), fun a ha => ⟨by rw [d3.1 a (by omega), c2 a (by omega)], rfl⟩⟩
    · show zg_M_undo_0 X 181 back (zM b I2 J) = _
      rw [c4, m_count X hmk (zKR_of h1 h2), zci, zg_M_undo_137_e, zo181, d1, zcv]
    · rw [d3.2 j (by omega), c3 j (by omega) (by omega) (by omega)]; exact s2 j hj
    · rw [d3.2 10 (by omega), c3 10 (by omega) (by omega) (by omega)]; exact s3
    · rw [d3.2 i (by omega), c3 i (by omega) (by omega) (by omega)]
    · rw [d3.2 i (by omega), c3 i (by omega) (by omega) (by omega)]
theorem zAct_snoc {q : Int32 × Int32} {S : zKL} (h : S.length < 20) : zAct S q.1 q.2 = S ++ [q] := by
  unfold zAct
  rw [if_neg (by omega)]
theorem go_undo (back : Int32) : zGo (fun M => zg_GP_undo_0 X 0 back M) (fun M => zg_M_undo_0 X 181 back M) := fun t b I J hi => by
  obtain ⟨⟨K, R, T, C, A, U, G, P, B⟩, r⟩ := t
  have hok := hi.1.1
  obtain ⟨h1, h2, h3, h4, ⟨K0, h5⟩, ⟨K1, h6⟩, h7, h8, h9⟩ := id hok
  have h1 : zKV K := h1
  have h7 : A.length + U.length ≤ 20 := h7
  have h5 : zPth K0 A K := h5
  have h6 : zPth K U K1 := h6
  have hCA : zCA I 0 A U := hi.2.1.1.2.2.2.2.2.1
  have e0 : (0 : Int32).toInt = 0 := rfl
  have e11 : (11 : Int32) = Int32.ofNat 11 := rfl
  have e12 : (12 : Int32) = Int32.ofNat 12 := rfl
  have e1220 : (1220 : Int32) = Int32.ofNat 1220 := rfl
  have e1260 : (1260 : Int32) = Int32.ofNat 1260 := rfl
  by_cases hb : back = 0
  · subst hb
    have m0 : ∀ M, zg_M_undo_0 X 181 0 M = zg_M_undo_25 X 181 0 12 1260 M := fun M => by
      rw [zg_M_undo_0_e, if_pos rfl, zg_M_undo_9_e, zg_M_undo_11_e, if_pos rfl, zg_M_undo_22_e]
    cases U with
    | nil =>
      refine zGo_r0 hi (v := .int zN) ?_ (fun hm => ⟨I, J, ?_, hi.2.2, fun _ _ => ⟨rfl, rfl⟩⟩)
      · show zg_GP_undo_0 X 0 0 (zM b I J) = _
        rw [zg_GP_undo_0_e, zo0, zM_P, zp0_0, zrf, zo1, zp1_5, zrf, zo7, c_stepOn0 X hCA, zci, if_pos (by decide), zg_GP_undo_22_e]
        rfl
      · have h12 : I 182 12 = Int32.ofNat 0 := hm.2.2.2.1.2.1
        show zg_M_undo_0 X 181 0 (zM b I J) = _
        rw [m0, zg_M_undo_25_e, zo181, zM_P, zp181_0, zrf, zw_12, zM_I, h12, if_pos (show Int32.ofNat 0 = 0 from rfl)]
        rfl
    | cons q U =>
      obtain ⟨K', g1, g2⟩ := h6
      have g1' := g1
      obtain ⟨p1, p2, p3, p4, p5, p6, p7⟩ := g1'
      have hl' : A.length + (U.length + 1) ≤ 20 := h7
      obtain ⟨I1, a1, a2, a3, a4, a5⟩ := c_stepOn X (b := b) (J := J) hCA hl'
      have hok' : zOK (K', R, T, C, A ++ [q], U, G, P, B) := ⟨p2, h2, h3, h4, ⟨K0, zPth_snoc h5 g1⟩, ⟨K1, g2⟩, by show (A ++ [q]).length + U.length ≤ 20; simp; omega, h8, h9⟩
      refine z_undo X (t := ((K, R, T, C, A, q :: U, G, P, B), r)) rfl hi (K' := K') (x := q.1) (y := q.2) p4 p2 p7.symm (fun hz => ⟨zSp_len g1 hz, by rw [hz, p6 hz]; decide⟩) hok' a2 a3 ?_ (fun I0 J0 hm => ?_)
      · rw [zg_GP_undo_0_e, zo0, zM_P, zp0_0, zrf, zo1, zp1_5, zrf, zo7, a1, zci, if_neg (fun w => absurd ((zkl0 (by omega)).mp w) (by omega)), if_pos ((zkl20 (by omega)).mpr (by omega)), zg_GP_undo_25_e, zo0, zM_P, zp0_0, zrf, zo1, zp1_5, zrf, zo7, zp7_0, zrf, zx8 (by omega), zo0, zrf, zo1, zp1_5, zrf, zo7, zp7_1, zrf, zx9 (by omega), zo0, zrf, zo1, zp1_0, zrf, if_pos rfl, zM_I, a4, a5, zg_GP_undo_70_e]
      · obtain ⟨s1, s2, s3, s4, s5, s6⟩ := hm.1
        obtain ⟨u1, u2, u3, u4⟩ := s4
        have u1 : I0 182 11 = Int32.ofNat A.length := u1
        have u2 : I0 182 12 = Int32.ofNat (U.length + 1) := u2
        have hrv : (q :: U).reverse = U.reverse ++ [q] := List.reverse_cons ..
        have u4 : zprs (I0 182) 1260 (U.reverse ++ [q]) := by rw [← hrv]; exact u4
        have hlr : U.reverse.length = U.length := List.length_reverse ..
        have st := m_undo38 X (b := b) (J := J0) (I := I0) (S0 := U.reverse) (q := q) (l1 := 0) (c := 12) (d := 1260) e12 e1260 (by decide) (by decide) (by rw [hlr]; exact u2) u4 (by omega)
        rw [hlr] at st
        obtain ⟨I2, n0, n1, n2, n3, n4⟩ := m_pushes X (b := b) (J := J0) (x := q.1) (y := q.2) (I := zst I0 182 12 (Int32.ofNat U.length)) (c := 11) (d := 1220) e11 e1220 (S := A) (by decide) (by decide) (by rw [zst_off (by decide)]; exact u1) (fun i p hp => by
          have hi : i < A.length := (List.getElem?_eq_some_iff.mp hp).1
          rw [zst_off (by omega), zst_off (by omega)]
          exact u3 i p hp) (by omega)
        rw [zAct_snoc (by omega)] at n1 n2
        refine ⟨I2, ⟨n1, ?_, n2, fun i p hp => ?_⟩, fun a ha => by rw [n3 a ha, zst_ne ha], fun i i1 i2 i3 => by rw [n4 i i1 (by omega), zst_off i2], ?_⟩
        · rw [n4 12 (by decide) (by omega), zst_self]
        · have hi : i < U.reverse.length := (List.getElem?_eq_some_iff.mp hp).1
          rw [n4 _ (by omega) (by omega), n4 _ (by omega) (by omega), zst_off (by omega), zst_off (by omega)]
          refine u4 i p ?_
          rw [List.getElem?_append_left hi]; exact hp
        · rw [m0, st, if_pos rfl, zg_M_undo_109_e, zo181, n0, zcv, zo181]
          congr 1
          funext v3 M2
          rw [if_pos rfl, zg_M_undo_135_e]
  · have m0 : ∀ M, zg_M_undo_0 X 181 back M = zg_M_undo_25 X 181 back 11 1220 M := fun M => by
      rw [zg_M_undo_0_e, if_neg hb, zg_M_undo_11_e, if_neg hb]
    rcases List.eq_nil_or_concat A with hA | ⟨A0, q, hA⟩
    · subst hA
      refine zGo_r0 hi (v := .int zN) ?_ (fun hm => ⟨I, J, ?_, hi.2.2, fun _ _ => ⟨rfl, rfl⟩⟩)
      · show zg_GP_undo_0 X 0 back (zM b I J) = _
        rw [zg_GP_undo_0_e, zo0, zM_P, zp0_0, zrf, zo1, zp1_5, zrf, zo7, c_stepBack0 X hCA hb, zci, if_pos (by decide), zg_GP_undo_22_e]
        rfl
      · have h11 : I 182 11 = Int32.ofNat 0 := hm.2.2.2.1.1
        show zg_M_undo_0 X 181 back (zM b I J) = _
        rw [m0, zg_M_undo_25_e, zo181, zM_P, zp181_0, zrf, zw_11, zM_I, h11, if_pos (show Int32.ofNat 0 = 0 from rfl)]
        rfl
    · rw [List.concat_eq_append] at hA
      subst hA
      obtain ⟨K', g2, g1⟩ := zPth_last h5
      have g1' := g1
      obtain ⟨p1, p2, p3, p4, p5, p6, p7⟩ := g1'
      have hl0 : (A0 ++ [q]).length = A0.length + 1 := by simp
      have hl' : A0.length + 1 + U.length ≤ 20 := by omega
      obtain ⟨I1, a1, a2, a3, a4, a5⟩ := c_stepBack X (b := b) (J := J) hCA hl' hb
      have es : zcnt q.1 K - q.2 = zcnt q.1 K + -q.2 := Int32.sub_eq_add_neg ..
      have ec : zcnt q.1 K + -q.2 = zcnt q.1 K' := by
        rw [← es, p7, Int32.add_sub_cancel]
      have hok' : zOK (K', R, T, C, A0, q :: U, G, P, B) := ⟨p1, h2, h3, h4, ⟨K0, g2⟩, ⟨K1, K, g1, h6⟩, by show A0.length + (U.length + 1) ≤ 20; omega, h8, h9⟩
      refine z_undo X (t := ((K, R, T, C, A0 ++ [q], U, G, P, B), r)) rfl hi (K' := K') (x := q.1) (y := -q.2) (by rw [← es]; exact p5) p1 ec (fun hz => ⟨(zSp_len2 g1 hz).1, by rw [ec, (zSp_len2 g1 hz).2]; decide⟩) hok' a2 a3 ?_ (fun I0 J0 hm => ?_)
      · rw [zg_GP_undo_0_e, zo0, zM_P, zp0_0, zrf, zo1, zp1_5, zrf, zo7, a1, zci, if_neg (fun w => absurd ((zkl0 (by omega)).mp w) (by omega)), if_pos ((zkl20 (by omega)).mpr (by omega)), zg_GP_undo_25_e, zo0, zM_P, zp0_0, zrf, zo1, zp1_5, zrf, zo7, zp7_0, zrf, zx8 (by omega), zo0, zrf, zo1, zp1_5, zrf, zo7, zp7_1, zrf, zx9 (by omega), zo0, zrf, zo1, zp1_0, zrf, if_neg hb, zM_I, a4, a5]
      · obtain ⟨s1, s2, s3, s4, s5, s6⟩ := hm.1
        obtain ⟨u1, u2, u3, u4⟩ := s4
        have u1 : I0 182 11 = Int32.ofNat (A0.length + 1) := by rw [← hl0]; exact u1
        have u2 : I0 182 12 = Int32.ofNat U.length := u2
        have hlr : U.reverse.length = U.length := List.length_reverse ..
        have st := m_undo38 X (b := b) (J := J0) (I := I0) (S0 := A0) (q := q) (l1 := back) (c := 11) (d := 1220) e11 e1220 (by decide) (by decide) u1 u3 (by omega)
        obtain ⟨I2, n0, n1, n2, n3, n4⟩ := m_pushes X (b := b) (J := J0) (x := q.1) (y := q.2) (I := zst I0 182 11 (Int32.ofNat A0.length)) (c := 12) (d := 1260) e12 e1260 (S := U.reverse) (by decide) (by decide) (by rw [zst_off (by decide), hlr]; exact u2) (fun i p hp => by
          have hi : i < U.reverse.length := (List.getElem?_eq_some_iff.mp hp).1
          rw [zst_off (by omega), zst_off (by omega)]
          exact u4 i p hp) (by omega)
        rw [zAct_snoc (by omega)] at n1 n2
        have hrv : (q :: U).reverse = U.reverse ++ [q] := List.reverse_cons ..
        refine ⟨I2, ⟨?_, ?_, fun i p hp => ?_, by rw [hrv]; exact n2⟩, fun a ha => by rw [n3 a ha, zst_ne ha], fun i i1 i2 i3 => by rw [n4 i i2 (by omega), zst_off i1], ?_⟩
        · rw [n4 11 (by decide) (by omega), zst_self]
        · rw [n1]
          show Int32.ofNat (U.reverse ++ [q]).length = Int32.ofNat (q :: U).length
          simp
        · have hi : i < A0.length := (List.getElem?_eq_some_iff.mp hp).1
          rw [n4 _ (by omega) (by omega), n4 _ (by omega) (by omega), zst_off (by omega), zst_off (by omega)]
          refine u3 i p ?_
          rw [List.getElem?_append_left hi]; exact hp
        · rw [m0, st, if_neg hb, zg_M_undo_109_e, zo181, n0, zcv, zo181]
          congr 1
          funext v3 M2
          rw [if_neg hb]
end ZGU
