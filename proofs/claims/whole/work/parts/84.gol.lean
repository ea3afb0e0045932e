/-! calls that ask of levels -/
section ZGL
variable (X : zv_X)
theorem zlev {t : zST} {I : zI} {J : zJ} (hi : zInv t I J) : zfb (zrf' (zsR t.1)) ∧ zupto (zrf' (zsR t.1)) (zsR t.1).length ∧ (zsR t.1).length ≤ 300 ∧ zEe t.1 ≤ 20 ∧ zEu t.1 ≤ 20 := ⟨zrf_fb hi.1.1.2.2.1, zrf_up hi.1.1.2.1.1, hi.1.1.2.1.2, (zE_e hi.1.1).2, (zE_u hi.1.1).2⟩
theorem go_seek (x w : Int32) : zGo (fun M => zg_GP_seek_0 X 0 x w M) (fun M => zg_M_seek_0 X 181 x w M) := fun t b I J hi => by
  obtain ⟨f1, f2, f3, f4, f5⟩ := zlev hi
  obtain ⟨H, hH, hC⟩ := hi.2.1.2.1
  obtain ⟨I1, a1, a2⟩ := c_seek X (b := b) (x := x) (w := w) f1 f2 f3 f4 f5 hC
  refine zGo_ro hi a1 (fun a ha => ⟨a2.2 a (by omega), rfl⟩) a2.1 (fun a ha => a2.2 a (by omega)) (fun hm hmi => ?_)
  have hR := zRow_of hi.1.1 hm
  obtain ⟨I2, J2, H', c1, c2, c3, c4, c5⟩ := m_seek X (b := b) (J := J) (x := x) (w := w) hR.1 hR.2.1 hR.2.2.1 hR.2.2.2.1 hR.2.2.2.2.1 f4 f5 f1 f2
  have : H' = H := zHt_uniq c1 hC.2.1
  subst this
  exact ⟨I2, J2, c2, zMI_frM ⟨c3, c4, c5⟩ hmi, c3⟩
theorem go_piece (l1 l2 w : Int32) : zGo (fun M => zg_GP_piece_0 X 0 l1 l2 w M) (fun M => zg_M_piece_0 X 181 l1 l2 w M) := fun t b I J hi => by
  obtain ⟨f1, f2, f3, f4, f5⟩ := zlev hi
  obtain ⟨H, hH, hC⟩ := hi.2.1.2.1
  obtain ⟨a1, a2⟩ := c_piece X (b := b) (l1 := l1) (l2 := l2) (w := w) f1 f2 f3 hC
  by_cases c : zIsP (zrf' (zsR t.1)) (zsR t.1).length (zEe t.1) (zEu t.1) H l1 l2
  · obtain ⟨l, k, c1, c2, c3, c4⟩ := id c
    refine zGo_r0 hi (a2 l k c1 c2 c3 c4) (fun hm => ?_)
    obtain ⟨I2, J2, H', b1, b2, b3, b4⟩ := m_piece X (b := b) (J := J) (l1 := l1) (l2 := l2) (w := w) (zRow_of hi.1.1 hm)
    have : H' = H := zHt_uniq b1 hC.2.1
    subst this
    exact ⟨I2, J2, b4 l k c1 c2 c3 c4, zMI_frM b2 hi.2.2, b2.1⟩
  · refine zGo_r0 hi (a1 c) (fun hm => ?_)
    obtain ⟨I2, J2, H', b1, b2, b3, b4⟩ := m_piece X (b := b) (J := J) (l1 := l1) (l2 := l2) (w := w) (zRow_of hi.1.1 hm)
    have : H' = H := zHt_uniq b1 hC.2.1
    subst this
    exact ⟨I2, J2, b3 c, zMI_frM b2 hi.2.2, b2.1⟩
theorem go_guess (l1 l2 x : Int32) : zGo (fun M => zg_GP_guess_0 X 0 l1 l2 x M) (fun M => zg_M_guess_0 X 181 l1 l2 x M) := fun t b I J hi => by
  obtain ⟨f1, f2, f3, f4, f5⟩ := zlev hi
  obtain ⟨H, hH, hC⟩ := hi.2.1.2.1
  obtain ⟨a1, a2⟩ := c_guessGP X (b := b) (l1 := l1) (l2 := l2) (x := x) f1 f2 f3 f4 f5 hC
  by_cases c : zIsP (zrf' (zsR t.1)) (zsR t.1).length (zEe t.1) (zEu t.1) H l1 l2
  · obtain ⟨l, k, c1, c2, c3, c4⟩ := id c
    refine zGo_r0 hi (a2 l k c1 c2 c3 c4) (fun hm => ?_)
    obtain ⟨I2, J2, H', b1, b2, b3, b4⟩ := m_guess X (b := b) (J := J) (l1 := l1) (l2 := l2) (x := x) (zRow_of hi.1.1 hm)
    have : H' = H := zHt_uniq b1 hC.2.1
    subst this
    exact ⟨I2, J2, b4 l k c1 c2 c3 c4, zMI_frM b2 hi.2.2, b2.1⟩
  · refine zGo_r0 hi (a1 c) (fun hm => ?_)
    obtain ⟨I2, J2, H', b1, b2, b3, b4⟩ := m_guess X (b := b) (J := J) (l1 := l1) (l2 := l2) (x := x) (zRow_of hi.1.1 hm)
    have : H' = H := zHt_uniq b1 hC.2.1
    subst this
    exact ⟨I2, J2, b3 c, zMI_frM b2 hi.2.2, b2.1⟩
theorem go_errors (l1 w : Int32) : zGo (fun M => zg_GP_errors_0 X 0 l1 w M) (fun M => zg_M_errors_0 X 181 l1 w M) := fun t b I J hi => by
  obtain ⟨f1, f2, f3, f4, f5⟩ := zlev hi
  obtain ⟨H, hH, hC⟩ := hi.2.1.2.1
  obtain ⟨a1, a2⟩ := c_errors X (b := b) (l1 := l1) (w := w) f1 f2 f3 f4 f5 hC
  rcases Classical.em (w < 0 ∨ 2 < w ∨ ∀ l, l < H → l1 ≠ Int32.ofNat l) with c | c
  · refine zGo_r0 hi (a1 c) (fun hm => ?_)
    obtain ⟨I2, J2, H', b1, b2, b3, b4⟩ := m_errors X (b := b) (J := J) (l1 := l1) (w := w) (zRow_of hi.1.1 hm)
    have : H' = H := zHt_uniq b1 hC.2.1
    subst this
    exact ⟨I2, J2, b3 c, zMI_frM b2 hi.2.2, b2.1⟩
  · have c1 : ¬ (w < 0 ∨ 2 < w) := fun q => c (q.elim Or.inl (fun q => Or.inr (Or.inl q)))
    have c2 : ∃ l, l < H ∧ l1 = Int32.ofNat l := Classical.byContradiction fun q => c (Or.inr (Or.inr (fun l hl e => q ⟨l, hl, e⟩)))
    obtain ⟨l, c3, c4⟩ := c2
    refine zGo_r0 hi (a2 l c1 c3 c4) (fun hm => ?_)
    obtain ⟨I2, J2, H', b1, b2, b3, b4⟩ := m_errors X (b := b) (J := J) (l1 := l1) (w := w) (zRow_of hi.1.1 hm)
    have : H' = H := zHt_uniq b1 hC.2.1
    subst this
    exact ⟨I2, J2, b4 l c1 c3 c4, zMI_frM b2 hi.2.2, b2.1⟩
theorem go_pages (w : Int32) : zGo (fun M => zg_GP_pages_0 X 0 w M) (fun M => zg_M_pages_0 X 181 w M) := fun t b I J hi => by
  obtain ⟨f1, f2, f3, f4, f5⟩ := zlev hi
  obtain ⟨H, hH, hC⟩ := hi.2.1.2.1
  obtain ⟨p, p1, p2⟩ := zE_p hi.1.1
  obtain ⟨o, o1, o2⟩ := zE_o hi.1.1
  have hT := hi.2.1.1.2.2.2.1
  have hin : ∀ (M : zv_M), zg_M_isIn_0 X w 0 1 M = some (some (.int (if w = 0 ∨ w = 1 then 1 else 0)), M) := fun M => by
    rw [m_isIn]
    have e0 : (0 : Int32).toInt = 0 := rfl
    have e1 : (1 : Int32).toInt = 1 := rfl
    have : (w < 0 ∨ 1 < w) ↔ ¬ (w = 0 ∨ w = 1) := by
      rw [zi_lt, zi_lt, zi_eq, zi_eq, e0, e1]; omega
    by_cases c : w = 0 ∨ w = 1
    · rw [if_pos c, if_neg (fun q => this.mp q c)]
    · rw [if_neg c, if_pos (this.mpr c)]
  by_cases c0 : w = 0
  · subst c0
    refine zGo_r0 hi (c_pages0 X (b := b) f1 f2 f3 f4 p2 (by rw [← p1]; exact hT 3 (by decide)) hC) (fun hm => ?_)
    have hR := zRow_of hi.1.1 hm
    obtain ⟨I2, J2, H', b1, b2, b3⟩ := m_row X (b := b) (J := J) hR (zEe t.1) f4
    have : H' = H := zHt_uniq b2.2.1 hC.2.1
    subst this
    have w2 : I2 182 = I 182 := b3.2.1 182 (by decide) (by decide)
    have := m_pg76 X (b := b) (p := p) f1 f2 f3 f4 p2 (by rw [w2]; exact hR.2.2.2.1) (by rw [w2, ← p1]; exact hm.2.1 3 (by decide)) b2 (fun hn => b2.2.2.2 0 (by
      rcases b2.2.1 with q | q
      · omega
      · omega)) (zsR t.1).length 0 (Nat.zero_add _)
    have this' : zg_M_pages_76 X 181 (Int32.ofNat (zsR t.1).length) 0 0 (zM b I2 J2) = _ := this
    refine ⟨I2, J2, ?_, zMI_frM (zfM_frM b3) hi.2.2, b3.1⟩
    show zg_M_pages_0 X 181 0 (zM b I J) = _
    rw [zg_M_pages_0_e, hin, zci, if_pos (Or.inl rfl), if_neg (by decide), zg_M_pages_11_e, zo181, zM_P, zp181_0, zrf, zw_8, zM_I, hR.2.1, if_neg (by decide), zg_M_pages_61_e, zo181, zM_P, zp181_0, zrf, zw_0, zM_I, hR.2.2.2.1, zo181, b1, zcv, this']
  · by_cases c1 : w = 1
    · subst c1
      obtain ⟨r, r1, r2⟩ := z_tree X (b := b) (I := I) (J := J) f3 o2 hi.2.1.1.2.1 (by rw [← o1]; exact hT 4 (by decide)) 9 0 1 1 rfl (by decide) (by decide) (by decide) (by omega)
      have r1' : zg_GP_treeHeight_4 X 0 0 1 (zM b I J) = _ := r1
      refine zGo_r0 hi (v := .int (Int32.ofNat (zsR t.1).length * (r + 1))) ?_ (fun hm => ⟨I, J, ?_, hi.2.2, fun _ _ => ⟨rfl, rfl⟩⟩)
      · show zg_GP_pages_0 X 0 1 (zM b I J) = _
        have h12 : I 1 2 = Int32.ofNat (zsR t.1).length := hi.2.1.1.2.1
        rw [zg_GP_pages_0_e, if_neg (by decide), zg_GP_pages_21_e, if_pos rfl, zo0, zM_P, zp0_0, zrf, zo1, zo0, zg_GP_treeHeight_0_e, r1', zci, zM_I, h12, zg_GP_pages_44_e]
      · have := r2 I J (by rw [← o1]; exact hm.2.1 4 (by decide))
        have this' : zg_M_pages_29 X 181 (Int32.ofNat (zsR t.1).length) 0 1 (zM b I J) = _ := this
        show zg_M_pages_0 X 181 1 (zM b I J) = _
        rw [zg_M_pages_0_e, hin, zci, if_pos (Or.inr rfl), if_neg (by decide), zg_M_pages_11_e, zo181, zM_P, zp181_0, zrf, zw_8, zM_I, hm.1.1, if_pos rfl, this']
    · refine zGo_r0 hi (v := .int (-1)) ?_ (fun hm => ⟨I, J, ?_, hi.2.2, fun _ _ => ⟨rfl, rfl⟩⟩)
      · show zg_GP_pages_0 X 0 w (zM b I J) = _
        rw [zg_GP_pages_0_e, if_neg c0, zg_GP_pages_21_e, if_neg c1, zg_GP_pages_43_e, zg_GP_pages_44_e]
      · show zg_M_pages_0 X 181 w (zM b I J) = _
        rw [zg_M_pages_0_e, hin, zci, zif10, if_neg (fun q : w = 0 ∨ w = 1 => q.elim c0 c1)]
/-! look -/
theorem c_look36 {b : Bool} {I : zI} {J : zJ} {w : Int32} (h : w.toInt < 10 ∨ ∃ H : Nat, H ≤ 9 ∧ I 40 2 = Int32.ofNat H ∧ 10 + (H : Int) ≤ w.toInt) : zg_GP_look_0 X 0 w (zM b I J) = zg_GP_look_36 X 0 w (zM b I J) := by
  have e10 : (10 : Int32).toInt = 10 := rfl
  by_cases c : w < 10
  · rw [zg_GP_look_0_e, if_pos c]
  · have c' : ¬ w.toInt < 10 := by rw [zi_lt, e10] at c; exact c
    obtain ⟨H, h1, h2, h3⟩ := h.resolve_left c'
    rw [zg_GP_look_0_e, if_neg c, zo0, zM_P, zp0_4, zrf, zo40, zM_I, h2, zka10, if_pos]
    rw [zi_le, zn_int (by omega)]; omega
theorem c_look61 {b : Bool} {I : zI} {J : zJ} {w : Int32} (h : w.toInt < 20 ∨ 28 ≤ w.toInt) : zg_GP_look_36 X 0 w (zM b I J) = zg_GP_look_61 X 0 w (zM b I J) := by
  have e20 : (20 : Int32).toInt = 20 := rfl
  have e28 : (28 : Int32).toInt = 28 := rfl
  rw [zg_GP_look_36_e]
  by_cases c : w < 20
  · rw [if_pos c]
  · rw [if_neg c, if_pos]
    rw [zi_lt, e20] at c
    rw [zi_le, e28]; omega
theorem m_look122 {b : Bool} {I : zI} {J : zJ} {w : Int32} (h : w.toInt < 0 ∨ 28 ≤ w.toInt) : zg_M_look_0 X 181 w (zM b I J) = some (some (.int (-1)), zM b I J) := by
  have e20 : (20 : Int32).toInt = 20 := rfl
  have e27 : (27 : Int32).toInt = 27 := rfl
  have e10 : (10 : Int32).toInt = 10 := rfl
  have e19 : (19 : Int32).toInt = 19 := rfl
  have e4 : (4 : Int32).toInt = 4 := rfl
  rw [zg_M_look_0_e, if_pos (by omega), zg_M_look_122_e, m_isIn, zci, zif01, if_pos (by rw [zi_lt, zi_lt, e20, e27]; omega), zg_M_look_143_e, if_neg (by rw [zi_eq, e4]; omega), m_isIn, zci, zif01, if_pos (by rw [zi_lt, zi_lt, e10, e19]; omega)]
theorem go_look (w : Int32) : zGo (fun M => zg_GP_look_0 X 0 w M) (fun M => zg_M_look_0 X 181 w M) := fun t b I J hi => by
  obtain ⟨f1, f2, f3, f4, f5⟩ := zlev hi
  obtain ⟨k1, k2, k3, k4⟩ := zhkr hi
  obtain ⟨H, hH, hC⟩ := hi.2.1.2.1
  have hT := hi.2.1.1.2.2.2.1
  have h12 : I 1 2 = Int32.ofNat (zsR t.1).length := hi.2.1.1.2.1
  have h14 : I 1 4 = zsC t.1 := hi.2.1.1.2.2.2.2.1
  have h5 : zrow (I 5) (zsR t.1) := hi.2.1.1.2.2.1
  have hCA : zCA I 0 (zsA t.1) (zsU t.1) := hi.2.1.1.2.2.2.2.2.1
  have hCP : zCP I 0 (zsP t.1) (zsB t.1) := hi.2.1.1.2.2.2.2.2.2.2
  have hrefl : ∀ a, a < 181 → I a = I a ∧ J a = J a := fun _ _ => ⟨rfl, rfl⟩
  by_cases cn : w.toInt < 0 ∨ 28 ≤ w.toInt
  · refine zGo_r0 hi (v := .int (-1)) ?_ (fun hm => ⟨I, J, m_look122 X cn, hi.2.2, hrefl⟩)
    show zg_GP_look_0 X 0 w (zM b I J) = _
    rw [c_look36 X (cn.imp (fun q => by omega) (fun q => ⟨H, hH, hC.1, by omega⟩)), c_look61 X (by omega), zg_GP_look_61_e, if_pos (by omega), zg_GP_look_219_e]
  · obtain ⟨k, hk, rfl, -⟩ := zidx (show ¬ w < 0 by
      have e0 : (0 : Int32).toInt = 0 := rfl
      rw [zi_lt, e0]; omega)
    have hki : (Int32.ofNat k).toInt = k := zn_int hk
    rw [hki] at cn
    have hk28 : k < 28 := by omega
    by_cases c20 : 20 ≤ k
    · refine zGo_r0 hi (v := .int (zsT t.1 (k - 20))) ?_ (fun hm => ⟨I, J, ?_, hi.2.2, hrefl⟩)
      · show zg_GP_look_0 X 0 (Int32.ofNat k) (zM b I J) = _
        have e28 : (28 : Int32) = Int32.ofNat 28 := rfl
        have h6 : I 6 (k - 20) = zsT t.1 (k - 20) := hT (k - 20) (by omega)
        rw [c_look36 X (Or.inr ⟨H, hH, hC.1, by rw [hki]; omega⟩), zg_GP_look_36_e, if_neg (fun q => absurd ((zkl20 (by omega)).mp q) (by omega)), if_neg (by rw [e28]; exact fun q => absurd ((zn_le (by omega) (by omega)).mp q) (by omega)), zo0, zM_P, zp0_0, zrf, zo1, zp1_3, zrf, zks20 c20, zx6 (by omega), zM_I, h6]
      · show zg_M_look_0 X 181 (Int32.ofNat k) (zM b I J) = _
        have e20 : (20 : Int32) = Int32.ofNat 20 := rfl
        have e27 : (27 : Int32) = Int32.ofNat 27 := rfl
        rw [zg_M_look_0_e, if_pos (by rw [hki]; omega), zg_M_look_122_e, m_isIn, zci, zif01, if_neg (by rw [zkl20 (by omega), zkg27 (by omega)]; omega), zo181, zM_P, zp181_0, zrf, zks20 c20, zx182 (by omega), zM_I, hm.2.1 (k - 20) (by omega)]
    · by_cases c10 : 10 ≤ k
      · -- levels
        have hk10 : k - 10 < 10 := by omega
        have e10 : (10 : Int32) = Int32.ofNat 10 := rfl
        have e19 : (19 : Int32) = Int32.ofNat 19 := rfl
        have e4 : (4 : Int32) = Int32.ofNat 4 := rfl
        have mst : ∀ (hm : zMS (I 182) t.1), ∃ I2 J2, zg_M_look_0 X 181 (Int32.ofNat k) (zM b I J) = zg_M_look_183 X 181 (Int32.ofNat k) (zM b I2 J2) ∧ zMCov I2 J2 (zrf' (zsR t.1)) (zsR t.1).length (zEe t.1) (zEu t.1) H ∧ zfM I I2 J J2 := fun hm => by
          have hR := zRow_of hi.1.1 hm
          obtain ⟨I2, J2, H', b1, b2, b3⟩ := m_row X (b := b) (J := J) hR (zEe t.1) f4
          have : H' = H := zHt_uniq b2.2.1 hC.2.1
          subst this
          refine ⟨I2, J2, ?_, b2, b3⟩
          rw [zg_M_look_0_e, if_pos (by rw [hki]; omega), zg_M_look_122_e, m_isIn, zci, zif01, if_pos (Or.inl ((zkl20 (by omega)).mpr (by omega))), zg_M_look_143_e, e4, if_neg (fun q => absurd ((zn_eq (by omega) (by omega)).mp q) (by omega)), m_isIn, zci, zif01, if_neg (by rw [zkl10 (by omega), zkg19 (by omega)]; omega), zg_M_look_161_e, zo181, zM_P, zp181_0, zrf, zw_0, zM_I, hR.2.2.2.1, zo181, b1, zcv, e4, if_neg (fun q => absurd ((zn_eq (by omega) (by omega)).mp q) (by omega))]
        have en : (Int32.ofNat H - 1).toInt = (H : Int) - 1 := by
          have o1 : (1 : Int32).toInt = 1 := rfl
          rw [zi_sub (by rw [zn_int (by omega), o1]; omega) (by rw [zn_int (by omega), o1]; omega), zn_int (by omega), o1]
        by_cases cH : k - 10 < H
        · have hlv := hC.2.2.2 (k - 10) cH
          have hcv := (zCvS_40 b).2.2.2.2.1 (k - 10) hk10
          obtain ⟨ty, ty1, ty2⟩ := (zCvS_40 b).2.2.2.1
          have hq : ∀ {kk : Nat → Option zv_R}, zv_iq (zM b I J) 41 (Int32.ofNat (k - 10)) kk = kk (k - 10) := ziq (a := 41) ty2 ty1 hk10 (by decide)
          refine zGo_r0 hi (v := .int (Int32.ofNat (zNp (zTf (zrf' (zsR t.1)) (zsR t.1).length (zEe t.1) (zEu t.1) (k - 10)) (zTn (zrf' (zsR t.1)) (zsR t.1).length (zEe t.1) (zEu t.1) (k - 10)) (zel (zEe t.1) (zEu t.1) (k - 10))))) ?_ (fun hm => ?_)
          · show zg_GP_look_0 X 0 (Int32.ofNat k) (zM b I J) = _
            rw [zg_GP_look_0_e, if_neg (fun q => absurd ((zkl10 (by omega)).mp q) (by omega)), zo0, zM_P, zp0_4, zrf, zo40, zM_I, hC.1, zka10, if_neg (fun q => absurd ((zn_le (by omega) (by omega)).mp q) (by omega)), zo0, zrf, zo40, zp40_0, zrf, zks10 c10, hq, hcv.1, zrf, zob hcv.2.1, hlv.2.2.1]
          · obtain ⟨I2, J2, b1, b2, b3⟩ := mst hm
            have hml := b2.2.2.2 (k - 10) cH
            refine ⟨I2, J2, ?_, zMI_frM (zfM_frM b3) hi.2.2, b3.1⟩
            show zg_M_look_0 X 181 (Int32.ofNat k) (zM b I J) = _
            rw [b1, zg_M_look_183_e, zo181, zks10 c10, zM_I, b2.1, m_isIn, zci, zif01, if_neg (by
              rw [zi_lt, zi_lt, en, zn_int (by omega)]
              have e0 : (0 : Int32).toInt = 0 := rfl
              rw [e0]; omega), zo181, zM_P, zp181_23, zrf, zx254 (by omega), zM_I, hml.2.2.1, zg_M_look_213_e]
        · refine zGo_r0 hi (v := .int (-1)) ?_ (fun hm => ?_)
          · show zg_GP_look_0 X 0 (Int32.ofNat k) (zM b I J) = _
            rw [c_look36 X (Or.inr ⟨H, hH, hC.1, by rw [hki]; omega⟩), c_look61 X (Or.inl (by rw [hki]; omega)), zg_GP_look_61_e, if_pos (by rw [hki]; omega), zg_GP_look_219_e]
          · obtain ⟨I2, J2, b1, b2, b3⟩ := mst hm
            refine ⟨I2, J2, ?_, zMI_frM (zfM_frM b3) hi.2.2, b3.1⟩
            show zg_M_look_0 X 181 (Int32.ofNat k) (zM b I J) = _
            rw [b1, zg_M_look_183_e, zo181, zks10 c10, zM_I, b2.1, m_isIn, zci, zif01, if_pos (by
              rw [zi_lt, zi_lt, en, zn_int (by omega)]
              omega), zg_M_look_212_e, zg_M_look_213_e]
      · -- single numbers
        have c36 : ∀ kk : Nat, kk < 10 → zg_GP_look_0 X 0 (Int32.ofNat kk) (zM b I J) = zg_GP_look_61 X 0 (Int32.ofNat kk) (zM b I J) := fun kk h => by
          rw [c_look36 X (Or.inl (by rw [zn_int (by omega)]; omega)), c_look61 X (Or.inl (by rw [zn_int (by omega)]; omega))]
        have hc : k = 0 ∨ k = 1 ∨ k = 2 ∨ k = 3 ∨ k = 4 ∨ k = 5 ∨ k = 6 ∨ k = 7 ∨ k = 8 ∨ k = 9 := by omega
        rcases hc with rfl | rfl | rfl | rfl | rfl | rfl | rfl | rfl | rfl | rfl
        · refine zGo_r0 hi (v := .int (Int32.ofNat (zsK t.1).length)) ?_ (fun hm => ⟨I, J, ?_, hi.2.2, hrefl⟩)
          · show zg_GP_look_0 X 0 (Int32.ofNat 0) (zM b I J) = _
            rw [c36 0 (by decide), zg_GP_look_61_e, if_neg (by decide)]
            show zg_GP_look_116 X 0 (zM b I J) = _
            rw [zg_GP_look_116_e, zo0, zM_P, zp0_0, zrf, zo1, zp1_0, zrf, zo2, zM_I, k1.1]
          · show zg_M_look_0 X 181 (Int32.ofNat 0) (zM b I J) = _
            rw [zg_M_look_0_e, if_neg (by decide)]
            show zg_M_look_56 X 181 (zM b I J) = _
            rw [zg_M_look_56_e, zo181, m_keys X hm.1 k3, zci]
        · refine zGo_r0 hi (v := .int (Int32.ofNat (zsR t.1).length)) ?_ (fun hm => ⟨I, J, ?_, hi.2.2, hrefl⟩)
          · show zg_GP_look_0 X 0 (Int32.ofNat 1) (zM b I J) = _
            rw [c36 1 (by decide), zg_GP_look_61_e, if_neg (by decide)]
            show zg_GP_look_127 X 0 (zM b I J) = _
            rw [zg_GP_look_127_e, zo0, zM_P, zp0_0, zrf, zo1, zM_I, h12]
          · show zg_M_look_0 X 181 (Int32.ofNat 1) (zM b I J) = _
            rw [zg_M_look_0_e, if_neg (by decide)]
            show zg_M_look_61 X 181 (zM b I J) = _
            rw [zg_M_look_61_e, zo181, zM_P, zp181_0, zrf, zw_8, zM_I, hm.1.1]
        · refine zGo_r0 hi (v := .int (Int32.ofNat (zWt (zsK t.1) (zsR t.1)).length)) ?_ (fun hm => ⟨I, J, ?_, hi.2.2, hrefl⟩)
          · show zg_GP_look_0 X 0 (Int32.ofNat 2) (zM b I J) = _
            rw [c36 2 (by decide), zg_GP_look_61_e, if_neg (by decide)]
            show zg_GP_look_135 X 0 (zM b I J) = _
            rw [zg_GP_look_135_e, zo0, zM_P, zp0_0, zrf, zo1, c_waiting X k1 k3 h12 h5, zci]
          · show zg_M_look_0 X 181 (Int32.ofNat 2) (zM b I J) = _
            rw [zg_M_look_0_e, if_neg (by decide)]
            show zg_M_look_69 X 181 (zM b I J) = _
            rw [zg_M_look_69_e, zo181, zM_P, zp181_0, zrf, zw_9, zM_I, hm.1.2.1]
        · have hst := zstd_le (zsK t.1) (zsR t.1)
          refine zGo_r0 hi (v := .int (Int32.ofNat ((zsR t.1).length - zstd (zsK t.1) (zsR t.1)))) ?_ (fun hm => ⟨I, J, ?_, hi.2.2, hrefl⟩)
          · show zg_GP_look_0 X 0 (Int32.ofNat 3) (zM b I J) = _
            rw [c36 3 (by decide), zg_GP_look_61_e, if_neg (by decide)]
            show zg_GP_look_143 X 0 (zM b I J) = _
            rw [zg_GP_look_143_e, zo0, zM_P, zp0_0, zrf, zo1, zo0, zrf, zo1, c_standing X k1 k3 h12 h5, zci, zM_I, h12, zn_sub hst]
          · show zg_M_look_0 X 181 (Int32.ofNat 3) (zM b I J) = _
            rw [zg_M_look_0_e, if_neg (by decide)]
            show zg_M_look_77 X 181 (zM b I J) = _
            rw [zg_M_look_77_e, zo181, m_gone X hm.1 k3, zci]
        · refine zGo_r0 hi (v := .int (Int32.ofNat H)) ?_ (fun hm => ?_)
          · show zg_GP_look_0 X 0 (Int32.ofNat 4) (zM b I J) = _
            rw [c36 4 (by decide), zg_GP_look_61_e, if_neg (by decide)]
            show zg_GP_look_159 X 0 (zM b I J) = _
            rw [zg_GP_look_159_e, zo0, zM_P, zp0_4, zrf, zo40, zM_I, hC.1]
          · have hR := zRow_of hi.1.1 hm
            obtain ⟨I2, J2, H', b1, b2, b3⟩ := m_row X (b := b) (J := J) hR (zEe t.1) f4
            have : H' = H := zHt_uniq b2.2.1 hC.2.1
            subst this
            refine ⟨I2, J2, ?_, zMI_frM (zfM_frM b3) hi.2.2, b3.1⟩
            show zg_M_look_0 X 181 (Int32.ofNat 4) (zM b I J) = _
            rw [zg_M_look_0_e, if_neg (by decide)]
            show zg_M_look_122 X 181 (Int32.ofNat 4) (zM b I J) = _
            rw [zg_M_look_122_e, m_isIn, zci, zif01, if_pos (by decide), zg_M_look_143_e, if_pos (by decide), zg_M_look_161_e, zo181, zM_P, zp181_0, zrf, zw_0, zM_I, hR.2.2.2.1, zo181, b1, zcv, if_pos (by decide), zo181, zM_I, b2.1, zg_M_look_213_e]
        · refine zGo_r0 hi (v := .int (zsC t.1)) ?_ (fun hm => ⟨I, J, ?_, hi.2.2, hrefl⟩)
          · show zg_GP_look_0 X 0 (Int32.ofNat 5) (zM b I J) = _
            rw [c36 5 (by decide), zg_GP_look_61_e, if_neg (by decide)]
            show zg_GP_look_167 X 0 (zM b I J) = _
            rw [zg_GP_look_167_e, zo0, zM_P, zp0_0, zrf, zo1, zM_I, h14]
          · show zg_M_look_0 X 181 (Int32.ofNat 5) (zM b I J) = _
            rw [zg_M_look_0_e, if_neg (by decide)]
            show zg_M_look_82 X 181 (zM b I J) = _
            rw [zg_M_look_82_e, zo181, zM_P, zp181_0, zrf, zw_10, zM_I, hm.2.2.1]
        · have h72 : I 7 2 = Int32.ofNat (zsA t.1).length := hCA.1
          refine zGo_r0 hi (v := .int (Int32.ofNat (zsA t.1).length)) ?_ (fun hm => ⟨I, J, ?_, hi.2.2, hrefl⟩)
          · show zg_GP_look_0 X 0 (Int32.ofNat 6) (zM b I J) = _
            rw [c36 6 (by decide), zg_GP_look_61_e, if_neg (by decide)]
            show zg_GP_look_175 X 0 (zM b I J) = _
            rw [zg_GP_look_175_e, zo0, zM_P, zp0_0, zrf, zo1, zp1_5, zrf, zo7, zM_I, h72]
          · show zg_M_look_0 X 181 (Int32.ofNat 6) (zM b I J) = _
            rw [zg_M_look_0_e, if_neg (by decide)]
            show zg_M_look_90 X 181 (zM b I J) = _
            rw [zg_M_look_90_e, zo181, zM_P, zp181_0, zrf, zw_11, zM_I, hm.2.2.2.1.1]
        · have h73 : I 7 3 = Int32.ofNat (zsU t.1).length := hCA.2.1
          refine zGo_r0 hi (v := .int (Int32.ofNat (zsU t.1).length)) ?_ (fun hm => ⟨I, J, ?_, hi.2.2, hrefl⟩)
          · show zg_GP_look_0 X 0 (Int32.ofNat 7) (zM b I J) = _
            rw [c36 7 (by decide), zg_GP_look_61_e, if_neg (by decide)]
            show zg_GP_look_186 X 0 (zM b I J) = _
            rw [zg_GP_look_186_e, zo0, zM_P, zp0_0, zrf, zo1, zp1_5, zrf, zo7, zM_I, h73]
          · show zg_M_look_0 X 181 (Int32.ofNat 7) (zM b I J) = _
            rw [zg_M_look_0_e, if_neg (by decide)]
            show zg_M_look_98 X 181 (zM b I J) = _
            rw [zg_M_look_98_e, zo181, zM_P, zp181_0, zrf, zw_12, zM_I, hm.2.2.2.1.2.1]
        · have h122 : I 12 2 = Int32.ofNat (zsP t.1).length := hCP.1
          refine zGo_r0 hi (v := .int (Int32.ofNat (zsP t.1).length)) ?_ (fun hm => ⟨I, J, ?_, hi.2.2, hrefl⟩)
          · show zg_GP_look_0 X 0 (Int32.ofNat 8) (zM b I J) = _
            rw [c36 8 (by decide), zg_GP_look_61_e, if_neg (by decide)]
            show zg_GP_look_197 X 0 (zM b I J) = _
            rw [zg_GP_look_197_e, zo0, zM_P, zp0_0, zrf, zo1, zp1_7, zrf, zo12, zM_I, h122]
          · show zg_M_look_0 X 181 (Int32.ofNat 8) (zM b I J) = _
            rw [zg_M_look_0_e, if_neg (by decide)]
            show zg_M_look_106 X 181 (zM b I J) = _
            rw [zg_M_look_106_e, zo181, zM_P, zp181_0, zrf, zw_13, zM_I, hm.2.2.2.2.2.1]
        · have h124 : I 12 4 = Int32.ofNat (zsB t.1).length := hCP.2.1
          refine zGo_r0 hi (v := .int (Int32.ofNat (zsB t.1).length)) ?_ (fun hm => ⟨I, J, ?_, hi.2.2, hrefl⟩)
          · show zg_GP_look_0 X 0 (Int32.ofNat 9) (zM b I J) = _
            rw [c36 9 (by decide), zg_GP_look_61_e, if_neg (by decide)]
            show zg_GP_look_208 X 0 (zM b I J) = _
            rw [zg_GP_look_208_e, zo0, zM_P, zp0_0, zrf, zo1, zp1_7, zrf, zo12, zM_I, h124]
          · show zg_M_look_0 X 181 (Int32.ofNat 9) (zM b I J) = _
            rw [zg_M_look_0_e, if_neg (by decide)]
            show zg_M_look_114 X 181 (zM b I J) = _
            rw [zg_M_look_114_e, zo181, zM_P, zp181_0, zrf, zw_14, zM_I, hm.2.2.2.2.2.2.1]
end ZGL
