section ZTF
variable (X : zv_X) {b : Bool} {I : zI} {J : zJ} {g : Nat → Nat} {n N k : Nat} {K : zKL} {T : zTT}
theorem zNumK_in {k : Nat} {lo hi : Int32} (h2 : ¬ (zvl g n (zpt g n k) < lo ∨ hi < zvl g n (zpt g n k))) : lo.toInt ≤ (zvl g n (zpt g n k)).toInt ∧ (zvl g n (zpt g n k)).toInt ≤ hi.toInt := by
  rw [zi_lt, zi_lt] at h2
  omega
theorem zStop_y (h : zk g n k = 3) : zStop g n (.inr (k, K, T)) = .inr (k + 1, K, T) := if_pos h
theorem zStop_n (h : ¬ zk g n k = 3) : zStop g n (.inr (k, K, T)) = .inl (1, zpt g n k) := if_neg h
theorem c_drop13 {x : Int32} (h : zPO I g n N (k + 1) K T) (hv : zKV K) (hx : -999999999 ≤ x.toInt ∧ x.toInt ≤ 999999999) (h39 : I 39 k = x) : zOR b J g n N I (zg_Teller_readDrop_13 X 31 (zM b I J)) (.inr (k + 1, zset x 0 K, T)) := by
  have hN := h.1.1
  have hk := h.2.1
  have hh := s_has X (b := b) (I := I) (J := J) (a := 33) (x := x) (zKy_33 b) h.2.2.2.1 hv.1
  have hc := s_countOf X (b := b) (I := I) (J := J) (a := 33) (x := x) (zKy_33 b) h.2.2.2.1 hv.1
  have hz := zcnt_le0 (x := x) hv.2.2.1
  have st : zg_Teller_readDrop_13 X 31 (zM b I J) = if zcnt x K ≤ 0 then some (some (.int 1), zM b I J) else zv_cv (zg_Keys_change_0 X 33 x (-zcnt x K) (zM b I J)) (fun M10 => zg_Teller_readDrop_53 X M10) := by
    rw [zg_Teller_readDrop_13_e, zo31, zM_P, zp31_8, zrf, zo31, zM_I, h.2.2.1, zn_sub1 (by omega), show k + 1 - 1 = k by omega, zx39 (by omega), h39, zo31, zp31_2, zrf, zo33, hh, zci, zif01, zo31, zM_P, zp31_2, zrf, zo31, zrf, zo33, hc, zci, zo33, zg_Teller_readDrop_53_e, zrb1]
  by_cases c : zcnt x K = 0
  · have e : zset x 0 K = K := by
      obtain ⟨A, B, -, -, hw⟩ := zways x K hv.1
      rcases hw with ⟨hw, -, hz2⟩ | ⟨d, hw, hd, -⟩
      · rw [hz2 0, if_pos rfl, hw]
      · rw [c] at hd
        have := hv.2.2.1 (x, d) (by rw [hw]; simp)
        rw [← hd] at this
        exact absurd this.1 (by show ¬ (1 : Int) ≤ (0 : Int32).toInt; decide)
    rw [st, if_pos (hz.mpr c), e]
    exact ⟨I, Or.inl ⟨_, _, _, rfl, rfl, h, hv, zfrO_refl I⟩⟩
  · have hr := zcnt_rng (x := x) hv.2.2.1
    have e0 : (0 : Int32).toInt = 0 := rfl
    obtain ⟨I', q1, q2, q3⟩ := s_change X (b := b) (J := J) (a := 33) (x := x) (y := -zcnt x K) (v := 0) (zKy_33 b) h.2.2.2.1 hv.1 (by rw [← Int32.sub_eq_add_neg, Int32.sub_self]) (by decide) (fun q => absurd q c)
    obtain ⟨p1, p2⟩ := zPO_chg h q3 q2
    rw [st, if_neg (fun q => c (hz.mp q)), q1, zcv, zg_Teller_readDrop_53_e, zrb1]
    exact ⟨I', Or.inl ⟨_, _, _, rfl, rfl, p1, zKV_set hv hx (by decide) (Or.inl rfl), p2⟩⟩
theorem c_readDrop {w : Nat} (h : zPO I g n N (w + 1) K T) (hv : zKV K) : zOR b J g n N I (zg_Teller_readDrop_0 X 31 (zM b I J)) (zADrop g n w K T) := by
  unfold zADrop
  rcases c_takeNumber X (b := b) (J := J) h (-999999999) 999999999 with ⟨a1, a2, a3, a4⟩ | ⟨f, p, I', a1, a2, a3⟩
  · have hv39 : I 39 (w + 1) = zvl g n (zpt g n (w + 1)) := (h.1.2.2.2 _ h.2.1).2.2.1 a1
    have := c_drop13 X (b := b) (J := J) (zPO_next h a2) hv (zbd9 a3) (by rw [zst_ne (by decide)]; exact hv39)
    rw [zNumK_y a1 a3, zg_Teller_readDrop_0_e, zo31, a4, zci, if_neg (by decide)]
    exact zOR_tr this (zfrO_st (Or.inr (Or.inr rfl)))
  · refine ⟨I', Or.inr ⟨f, p, a1 _, ?_, a3⟩⟩
    rw [zg_Teller_readDrop_0_e, zo31, a2, zci, if_pos rfl, zrb0]
theorem c_readSet {w s : Nat} (hs : s < 3) (h : zPO I g n N (w + 1) K T) (hv : zKV K) : zOR b J g n N I (zg_Teller_readSetting_0 X 31 (Int32.ofNat s) (zM b I J)) (zASet g n s w K T) := by
  have hN := h.1.1
  have hk := h.2.1
  unfold zASet
  have o2 : ∀ {k : Int32 → Option zv_R}, zv_ox X 2 (Int32.ofNat s) k = k 0 := by
    have : s = 0 ∨ s = 1 ∨ s = 2 := by omega
    rcases this with rfl | rfl | rfl <;> exact fun {k} => rfl
  have o3 : ∀ {k : Int32 → Option zv_R}, zv_ox X 3 (Int32.ofNat s) k = k (if s = 2 then 50 else 20) := by
    have : s = 0 ∨ s = 1 ∨ s = 2 := by omega
    rcases this with rfl | rfl | rfl <;> exact fun {k} => rfl
  rcases c_takeNumber X (b := b) (J := J) h 0 (if s = 2 then 50 else 20) with ⟨a1, a2, a3, a4⟩ | ⟨f, p, I', a1, a2, a3⟩
  · have hv39 : I 39 (w + 1) = zvl g n (zpt g n (w + 1)) := (h.1.2.2.2 _ h.2.1).2.2.1 a1
    have h1 := zPO_next h a2
    rw [zNumK_y a1 a3]
    refine ⟨zst (zst I 31 9 (Int32.ofNat (w + 1 + 1))) 36 s (zvl g n (zpt g n (w + 1))), Or.inl ⟨_, _, _, rfl, ?_, ?_, hv, ?_⟩⟩
    · rw [zg_Teller_readSetting_0_e, o2, o3, zo31, a4, zci, if_neg (by decide), zg_Teller_readSetting_19_e, zo31, zM_P, zp31_3, zrf, zo31, zp31_8, zrf, zo31, zM_I, zst_self, zn_sub1 (by omega), show w + 1 + 1 - 1 = w + 1 by omega, zx39 (by omega), zx36 (by omega), zst_ne (by decide), hv39, zM_wI, zrb1]
    · generalize zst I 31 9 (Int32.ofNat (w + 1 + 1)) = I1 at *
      obtain ⟨g1, g2, g3, g4, g5, g6, g7⟩ := h1
      refine ⟨zTks_fr g1 ⟨fun c _ _ _ _ c5 => zst_ne c5, fun j _ _ _ => by rw [zst_ne (by decide)]⟩, g2, by rw [zst_ne (by decide)]; exact g3, ?_, fun j hj => ?_, by rw [zst_ne (by decide)]; exact g6, by rw [zst_ne (by decide)]; exact g7⟩
      · unfold zKeys at *
        rw [zst_ne (by decide), zst_ne (by decide), zst_ne (by decide)]
        exact g4
      · unfold zTu
        by_cases c : j = s
        · rw [if_pos c, c, zst_self]
        · rw [if_neg c, zst_off c]; exact g5 j hj
    · exact ⟨fun c c1 _ _ _ c5 => by rw [zst_ne c5, zst_ne c1], fun j j1 j2 j3 => by rw [zst_ne (by decide), zst_off j3]⟩
  · refine ⟨I', Or.inr ⟨f, p, a1 _, ?_, a3⟩⟩
    rw [zg_Teller_readSetting_0_e, o2, o3, zo31, a2, zci, if_pos rfl, zrb0]
theorem c_run116 {w : Nat} {x s m : Int32} (hm : 1 ≤ m.toInt ∧ m.toInt ≤ 99) (hs : 1 ≤ s.toInt ∧ s.toInt ≤ 99999) (hx : -999999999 ≤ x.toInt) (hb : x.toInt + (m.toInt - 1) * s.toInt ≤ 999999999) (hw : w ≤ N) : ∀ (r i : Nat) (I : zI) (K : zKL), i + r = m.toInt.toNat → zPO I g n N k K T → zKV K → zOR b J g n N I (zg_Teller_readRun_116 X 31 (Int32.ofNat w) x m s (Int32.ofNat i) (zM b I J)) (zRunO T (zpt g n w) k (zRunL x s r i K)) := by
  intro r
  induction r with
  | zero =>
    intro i I K hi h hv
    refine ⟨I, Or.inl ⟨_, _, _, rfl, ?_, h, hv, zfrO_refl I⟩⟩
    rw [zg_Teller_readRun_116_e, if_pos (by rw [zi_le, zn_int (by omega)]; omega), zg_Teller_readRun_174_e, zrb1]
  | succ r ih =>
    intro i I K hi h hv
    have hN := h.1.1
    have ht := h.1.2.2.2 w hw
    have hlt : ¬ m ≤ Int32.ofNat i := by rw [zi_le, zn_int (by omega)]; omega
    have ei : (Int32.ofNat i).toInt = i := zn_int (by omega)
    have hi1 : (i : Int) * s.toInt ≤ (m.toInt - 1) * s.toInt := Int.mul_le_mul_of_nonneg_right (by omega) (by omega)
    have hi0 : 0 ≤ (i : Int) * s.toInt := Int.mul_nonneg (by omega) (by omega)
    have hi2 : (i : Int) * s.toInt ≤ 98 * 99999 := Int.mul_le_mul (by omega) (by omega) (by omega) (by omega)
    have ep : (Int32.ofNat i * s).toInt = i * s.toInt := by rw [zi_mul (by rw [ei]; omega) (by rw [ei]; omega), ei]
    have ey : (x + Int32.ofNat i * s).toInt = x.toInt + i * s.toInt := by rw [zi_add (by rw [ep]; omega) (by rw [ep]; omega), ep]
    generalize hxe : x + Int32.ofNat i * s = y at *
    have ct := s_canTake X (b := b) (I := I) (J := J) (a := 33) (x := y) (zKy_33 b) h.2.2.2.1 hv.1 1
    unfold zRunL
    rw [hxe]
    by_cases c : zno K y 1
    · rw [if_pos c]
      refine ⟨_, Or.inr ⟨3, zpt g n w, rfl, ?_, zFl_fail (by omega) (by have := h.2.1; omega) h.2.2.1⟩⟩
      rw [zg_Teller_readRun_116_e, if_neg hlt, hxe, zo31, zM_P, zp31_2, zrf, zo33, ct, zci, if_pos c, if_pos rfl, zo31, zM_P, zp31_7, zrf, zx38 (by omega), zo31, zM_I, ht.1, c_fail, zci, zrb0]
      rfl
    · obtain ⟨v1, v2, v3, v4⟩ := zcom_ok (y := 1) hv (by omega) (by decide) c
      have e0 : (0 : Int32).toInt = 0 := rfl
      obtain ⟨I', q1, q2, q3⟩ := s_change X (b := b) (J := J) (a := 33) (x := y) (y := 1) (v := zcnt y K + 1) (zKy_33 b) h.2.2.2.1 hv.1 rfl (by rw [zi_le, e0]; omega) (fun q => ⟨v3 q, by rw [zi_lt, e0]; omega⟩)
      obtain ⟨p1, p2⟩ := zPO_chg h q3 q2
      rw [if_neg c, zg_Teller_readRun_116_e, if_neg hlt, hxe, zo31, zM_P, zp31_2, zrf, zo33, ct, zci, if_neg c, if_neg (by decide), zg_Teller_readRun_153_e, zo31, zM_P, zp31_2, zrf, zo33, hxe, q1, zcv, zn_add1]
      exact zOR_tr (ih (i + 1) I' _ (by omega) p1 v4) p2
theorem c_readRun {w : Nat} (h : zPO I g n N (w + 1) K T) (hv : zKV K) : zOR b J g n N I (zg_Teller_readRun_0 X 31 (Int32.ofNat w) (zM b I J)) (zARun g n w K T) := by
  have hN := h.1.1
  unfold zARun
  rcases c_takeNumber X (b := b) (J := J) h (-999999999) 999999999 with ⟨a1, a2, a3, a4⟩ | ⟨f, p, I', a1, a2, a3⟩
  · have h1 := zPO_next h a2
    have v1 : I 39 (w + 1) = zvl g n (zpt g n (w + 1)) := (h.1.2.2.2 _ h.2.1).2.2.1 a1
    have f1 : zfrO I (zst I 31 9 (Int32.ofNat (w + 1 + 1))) := zfrO_st (Or.inr (Or.inr rfl))
    rw [zNumK_y a1 a3]
    have hx := zbd9 a3
    rw [← zst_ne (I := I) (a := 31) (j := 9) (x := Int32.ofNat (w + 1 + 1)) (a' := 39) (by decide)] at v1
    generalize zvl g n (zpt g n (w + 1)) = x at *
    generalize zst I 31 9 (Int32.ofNat (w + 1 + 1)) = I1 at *
    rcases c_takeNumber X (b := b) (J := J) h1 1 99 with ⟨b1, b2, b3, b4⟩ | ⟨f, p, I', b1, b2, b3⟩
    · have h2 := zPO_next h1 b2
      have v2 : I1 39 (w + 1 + 1) = zvl g n (zpt g n (w + 1 + 1)) := (h1.1.2.2.2 _ h1.2.1).2.2.1 b1
      have f2 : zfrO I1 (zst I1 31 9 (Int32.ofNat (w + 1 + 1 + 1))) := zfrO_st (Or.inr (Or.inr rfl))
      have e2 : zNumK g n (w + 2) 1 99 (fun m => zNumK g n (w + 3) 1 99999 (fun s => if 999999999 < x + (m - 1) * s then .inl (2, zpt g n (w + 3)) else zRunO T (zpt g n w) (w + 4) (zRunL x s m.toInt.toNat 0 K))) = _ := zNumK_y b1 b3
      rw [e2]
      have hm := zNumK_in b3
      rw [← zst_ne (I := I1) (a := 31) (j := 9) (x := Int32.ofNat (w + 1 + 1 + 1)) (a' := 39) (by decide)] at v1 v2
      generalize zvl g n (zpt g n (w + 1 + 1)) = m at *
      generalize zst I1 31 9 (Int32.ofNat (w + 1 + 1 + 1)) = I2 at *
      rcases c_takeNumber X (b := b) (J := J) h2 1 99999 with ⟨c1, c2, c3, c4⟩ | ⟨f, p, I', c1, c2, c3⟩
      · have h3 := zPO_next h2 c2
        have v3 : I2 39 (w + 1 + 1 + 1) = zvl g n (zpt g n (w + 1 + 1 + 1)) := (h2.1.2.2.2 _ h2.2.1).2.2.1 c1
        have f3 : zfrO I2 (zst I2 31 9 (Int32.ofNat (w + 1 + 1 + 1 + 1))) := zfrO_st (Or.inr (Or.inr rfl))
        have e3 : zNumK g n (w + 3) 1 99999 (fun s => if 999999999 < x + (m - 1) * s then .inl (2, zpt g n (w + 3)) else zRunO T (zpt g n w) (w + 4) (zRunL x s m.toInt.toNat 0 K)) = _ := zNumK_y c1 c3
        have hp3 := (h2.1.2.2.2 _ h2.2.1).1
        rw [e3]
        have hs := zNumK_in c3
        rw [← zst_ne (I := I2) (a := 31) (j := 9) (x := Int32.ofNat (w + 1 + 1 + 1 + 1)) (a' := 39) (by decide)] at v1 v2 v3
        rw [← zst_ne (I := I2) (a := 31) (j := 9) (x := Int32.ofNat (w + 1 + 1 + 1 + 1)) (a' := 38) (by decide)] at hp3
        generalize zvl g n (zpt g n (w + 1 + 1 + 1)) = s at *
        generalize zst I2 31 9 (Int32.ofNat (w + 1 + 1 + 1 + 1)) = I3 at *
        have k1 : (1 : Int32).toInt = 1 := rfl
        have k2 : (99 : Int32).toInt = 99 := rfl
        have k3 : (99999 : Int32).toInt = 99999 := rfl
        have k9 : (999999999 : Int32).toInt = 999999999 := rfl
        have k9' : (-999999999 : Int32).toInt = -999999999 := rfl
        rw [k1, k2] at hm
        rw [k1, k3] at hs
        have f03 := zfrO_tr f1 (zfrO_tr f2 f3)
        have em : (m - 1).toInt = m.toInt - 1 := by rw [zi_sub (by rw [k1]; omega) (by rw [k1]; omega), k1]
        have hq0 : 0 ≤ (m.toInt - 1) * s.toInt := Int.mul_nonneg (by omega) (by omega)
        have hq2 : (m.toInt - 1) * s.toInt ≤ 98 * 99999 := Int.mul_le_mul (by omega) (by omega) (by omega) (by omega)
        have ep : ((m - 1) * s).toInt = (m.toInt - 1) * s.toInt := by rw [zi_mul (by rw [em]; omega) (by rw [em]; omega), em]
        have ey : (x + (m - 1) * s).toInt = x.toInt + (m.toInt - 1) * s.toInt := by rw [zi_add (by rw [ep]; omega) (by rw [ep]; omega), ep]
        have h43 : zg_Teller_readRun_0 X 31 (Int32.ofNat w) (zM b I J) = if 999999999 < x + (m - 1) * s then some (some (.int 0), zM b (zst (zst I3 31 4 (Int32.ofNat 2)) 31 5 (Int32.ofNat (zpt g n (w + 3)))) J) else zg_Teller_readRun_116 X 31 (Int32.ofNat w) x m s 0 (zM b I3 J) := by
          conv => lhs; rw [zg_Teller_readRun_0_e, zo31, a4, zci, if_neg (by decide), zo31, b4, zci, if_neg (by decide), zo31, c4, zci, if_neg (by decide), zg_Teller_readRun_36_e, if_neg (by decide), zg_Teller_readRun_43_e, zo31, zM_P, zp31_8, zrf, zo31, zM_I, h3.2.2.1, zks3 (by omega), show w + 1 + 1 + 1 + 1 - 3 = w + 1 by omega, zx39 (by omega), v1, zo31, zrf, zo31, zks2 (by omega), show w + 1 + 1 + 1 + 1 - 2 = w + 1 + 1 by omega, zx39 (by omega), v2, zo31, zrf, zo31, zn_sub1 (by omega), show w + 1 + 1 + 1 + 1 - 1 = w + 1 + 1 + 1 by omega, zx39 (by omega), v3, c_canBeKey, zci, zif01, zo31, zM_P, zp31_7, zrf, zo31, zM_I, h3.2.2.1, zn_sub1 (by omega), show w + 1 + 1 + 1 + 1 - 1 = w + 1 + 1 + 1 by omega, zx38 (by omega), zo31, hp3, c_fail, zci, zrb0, zg_Teller_readRun_113_e]
          by_cases d : 999999999 < x + (m - 1) * s
          · rw [if_pos d, if_pos (Or.inr d)]
            rfl
          · rw [if_neg d, if_neg]
            rintro (q | q)
            · rw [zi_lt, ey, k9'] at q; omega
            · exact d q
        rw [h43]
        by_cases d : 999999999 < x + (m - 1) * s
        · rw [if_pos d, if_pos d]
          exact ⟨_, Or.inr ⟨2, zpt g n (w + 3), rfl, rfl, zFl_tr (zFl_fail (by omega) (show w + 1 + 1 + 1 + 1 ≤ 600 by have := h3.2.1; omega) h3.2.2.1) f03⟩⟩
        · rw [if_neg d, if_neg d]
          have hb : x.toInt + (m.toInt - 1) * s.toInt ≤ 999999999 := by
            rw [zi_lt, ey, k9] at d; omega
          have := c_run116 X (b := b) (J := J) (g := g) (n := n) (N := N) (k := w + 1 + 1 + 1 + 1) (T := T) (w := w) (x := x) (s := s) (m := m) hm hs hx.1 hb (by have := h3.2.1; omega) m.toInt.toNat 0 I3 K (Nat.zero_add _) h3 hv
          exact zOR_tr this f03
      · refine ⟨I', Or.inr ⟨f, p, c1 _, ?_, zFl_tr c3 (zfrO_tr f1 f2)⟩⟩
        rw [zg_Teller_readRun_0_e, zo31, a4, zci, if_neg (by decide), zo31, b4, zci, if_neg (by decide), zo31, c2, zci, if_pos rfl, zg_Teller_readRun_35_e, zg_Teller_readRun_36_e, if_pos rfl, zrb0]
    · refine ⟨I', Or.inr ⟨f, p, b1 _, ?_, zFl_tr b3 f1⟩⟩
      rw [zg_Teller_readRun_0_e, zo31, a4, zci, if_neg (by decide), zo31, b2, zci, if_pos rfl, zg_Teller_readRun_35_e, zg_Teller_readRun_36_e, if_pos rfl, zrb0]
  · refine ⟨I', Or.inr ⟨f, p, a1 _, ?_, a3⟩⟩
    rw [zg_Teller_readRun_0_e, zo31, a2, zci, if_pos rfl, zg_Teller_readRun_35_e, zg_Teller_readRun_36_e, if_pos rfl, zrb0]
theorem zOR_rb {call : Option zv_R} {o : zOut} (h : zOR b J g n N I call o) : zOR b J g n N I (zv_ci call (fun v2 M1 => zv_rb v2 M1)) o := by
  obtain ⟨I', ⟨k', K', T', h1, h2, h3, h4, h5⟩ | ⟨f, p, h1, h2, h3⟩⟩ := h
  · exact ⟨I', Or.inl ⟨k', K', T', h1, by rw [h2, zci, zrb1], h3, h4, h5⟩⟩
  · exact ⟨I', Or.inr ⟨f, p, h1, by rw [h2, zci, zrb0], h3⟩⟩
theorem c_readStatement {w : Nat} (h : zPO I g n N (w + 1) K T) (hv : zKV K) (hk : 4 ≤ zk g n w) : zOR b J g n N I (zg_Teller_readStatement_0 X 31 (Int32.ofNat w) (zM b I J)) (zStm g n w K T) := by
  have hN := h.1.1
  have ht := (h.1.2.2.2 w (by have := h.2.1; omega)).2.2.2 hk
  have hr : zk g n w < 10 := zkd_rng (g := g) (n := n) (zpt g n w)
  have st : zg_Teller_readStatement_0 X 31 (Int32.ofNat w) (zM b I J) = if (Int32.ofNat (zk g n w - 4)).toInt < 0 ∨ 4 < (Int32.ofNat (zk g n w - 4)).toInt then zg_Teller_readStatement_69 X 31 (zM b I J) else zv_sw [40, 46, 52, 57, 63] ((Int32.ofNat (zk g n w - 4)).toInt - 0).toNat (fun l => zR X (zv_jmp 68 l [some (.ref 31), some (.int (Int32.ofNat w))] [] (zM b I J))) := by
    rw [zg_Teller_readStatement_0_e, zo31, zM_P, zp31_8, zrf, zx39 (by have := h.2.1; omega), zM_I, ht]
  unfold zStm
  have hc : zk g n w = 4 ∨ zk g n w = 5 ∨ zk g n w = 6 ∨ zk g n w = 7 ∨ zk g n w = 8 ∨ zk g n w = 9 := by omega
  rcases hc with c | c | c | c | c | c
  · rw [st, c, if_pos rfl, if_neg (by decide)]
    have e : zv_sw [40, 46, 52, 57, 63] ((Int32.ofNat (4 - 4)).toInt - 0).toNat (fun l => zR X (zv_jmp 68 l [some (.ref 31), some (.int (Int32.ofNat w))] [] (zM b I J))) = zg_Teller_readStatement_40 X 31 (Int32.ofNat w) (zM b I J) := rfl
    rw [e, zg_Teller_readStatement_40_e, zo31]
    exact zOR_rb (c_readKey X h hv)
  · rw [st, c, if_neg (by decide), if_pos rfl, if_neg (by decide)]
    have e : zv_sw [40, 46, 52, 57, 63] ((Int32.ofNat (5 - 4)).toInt - 0).toNat (fun l => zR X (zv_jmp 68 l [some (.ref 31), some (.int (Int32.ofNat w))] [] (zM b I J))) = zg_Teller_readStatement_46 X 31 (Int32.ofNat w) (zM b I J) := rfl
    rw [e, zg_Teller_readStatement_46_e, zo31]
    exact zOR_rb (c_readRun X h hv)
  · rw [st, c, if_neg (by decide), if_neg (by decide), if_pos rfl, if_neg (by decide)]
    have e : zv_sw [40, 46, 52, 57, 63] ((Int32.ofNat (6 - 4)).toInt - 0).toNat (fun l => zR X (zv_jmp 68 l [some (.ref 31), some (.int (Int32.ofNat w))] [] (zM b I J))) = zg_Teller_readStatement_52 X 31 (zM b I J) := rfl
    rw [e, zg_Teller_readStatement_52_e, zo31]
    exact zOR_rb (c_readDrop X h hv)
  · rw [st, c, if_neg (by decide), if_neg (by decide), if_neg (by decide), if_neg (by decide)]
    have e : zv_sw [40, 46, 52, 57, 63] ((Int32.ofNat (7 - 4)).toInt - 0).toNat (fun l => zR X (zv_jmp 68 l [some (.ref 31), some (.int (Int32.ofNat w))] [] (zM b I J))) = zg_Teller_readStatement_57 X 31 (zM b I J) := rfl
    rw [e, zg_Teller_readStatement_57_e, zo31]
    exact zOR_rb (c_readSet X (s := 0) (by decide) h hv)
  · rw [st, c, if_neg (by decide), if_neg (by decide), if_neg (by decide), if_neg (by decide)]
    have e : zv_sw [40, 46, 52, 57, 63] ((Int32.ofNat (8 - 4)).toInt - 0).toNat (fun l => zR X (zv_jmp 68 l [some (.ref 31), some (.int (Int32.ofNat w))] [] (zM b I J))) = zg_Teller_readStatement_63 X 31 (zM b I J) := rfl
    rw [e, zg_Teller_readStatement_63_e, zo31]
    exact zOR_rb (c_readSet X (s := 1) (by decide) h hv)
  · rw [st, c, if_pos (show (Int32.ofNat (9 - 4)).toInt < 0 ∨ 4 < (Int32.ofNat (9 - 4)).toInt by decide), if_neg (by decide), if_neg (by decide), if_neg (by decide)]
    rw [zg_Teller_readStatement_69_e, zo31]
    exact zOR_rb (c_readSet X (s := 2) (by decide) h hv)
/-- a fault ends the reading -/
theorem c_raF {f p r : Nat} {I0 : zI} (h : zFl I0 I f p) (hr : r ≤ 61) : zg_Teller_readAll_47 X 31 (Int32.ofNat r) (zM b I J) = some (none, zM b I J) := by
  obtain ⟨h1, h2, h3, h4, ⟨k, k1, k2⟩, h5⟩ := h
  rw [zg_Teller_readAll_47_e, zg_Teller_readAll_142_e, zo31, zM_P, zp31_6, zrf, zo31, zM_I, k2, zx37 (by omega), zo31, h1, if_neg (show ¬ Int32.ofNat f = 0 from fun q => absurd ((zke0 (by omega)).mp q) (by omega))]
  split
  · rfl
  · split <;> rfl
/-- what the whole text leaves -/
def zRA (I0 I : zI) (o : (Nat × Nat) ⊕ (zKL × zTT)) : Prop := zfrO I0 I ∧ ((∃ K T, o = .inr (K, T) ∧ zKeys I 33 K ∧ zKV K ∧ (∀ j, j < 8 → I 36 j = T j) ∧ I 31 4 = 0 ∧ I 31 5 = -1) ∨ ∃ f p, o = .inl (f, p) ∧ 1 ≤ f ∧ f ≤ 3 ∧ I 31 4 = Int32.ofNat f ∧ I 31 5 = Int32.ofNat p)
theorem zRA_fl {I0 I : zI} {f p : Nat} (h : zFl I0 I f p) : zRA I0 I (.inl (f, p)) := ⟨h.2.2.2.2.2, Or.inr ⟨f, p, rfl, h.2.2.1, h.2.2.2.1, h.1, h.2.1⟩⟩
theorem c_ra47 : ∀ (m r k : Nat) (I : zI) (K : zKL) (T : zTT), r + (m + 1) = 61 → zPO I g n N k K T → zKV K → ∃ I', zg_Teller_readAll_47 X 31 (Int32.ofNat r) (zM b I J) = some (none, zM b I' J) ∧ zRA I I' (zTxt g n (m + 1) k K T) := by
  have e60 : (60 : Int32) = Int32.ofNat 60 := rfl
  have e1 : (1 : Int32) = Int32.ofNat 1 := rfl
  have e3 : (3 : Int32) = Int32.ofNat 3 := rfl
  intro m
  induction m with
  | zero =>
    intro r k I K T hr h hv
    have hN := h.1.1
    have hk := h.2.1
    have ht := h.1.2.2.2 k hk
    have hkr : zkO (zk g n k) < 10 := zkO_lt (zkd_rng (g := g) (n := n) (zpt g n k))
    have hr60 : r = 60 := by omega
    subst hr60
    unfold zTxt
    by_cases c0 : zk g n k = 0
    · refine ⟨I, ?_, zfrO_refl I, Or.inl ⟨K, T, by rw [if_pos c0], h.2.2.2.1, hv, h.2.2.2.2.1, h.2.2.2.2.2.1, h.2.2.2.2.2.2⟩⟩
      rw [zg_Teller_readAll_47_e, if_neg (by decide), zo31, zM_P, zp31_6, zrf, zo31, zM_I, h.2.2.1, zx37 (by omega), ht.2.1, if_pos (by rw [zkO_0.mpr c0]; rfl), zg_Teller_readAll_142_e]
    · have st : zg_Teller_readAll_47 X 31 (Int32.ofNat 60) (zM b I J) = if 4 ≤ zk g n k then zg_Teller_readAll_47 X 31 (Int32.ofNat 61) (zM b (zst (zst I 31 4 (Int32.ofNat 3)) 31 5 (Int32.ofNat (zpt g n k))) J) else zg_Teller_readAll_109 X 31 (Int32.ofNat 60) (zM b I J) := by
        conv => lhs; rw [zg_Teller_readAll_47_e, if_neg (by decide), zo31, zM_P, zp31_6, zrf, zo31, zM_I, h.2.2.1, zx37 (by omega), ht.2.1, if_neg (show ¬ Int32.ofNat (zkO (zk g n k)) = 0 from fun q => c0 (zkO_0.mp ((zke0 (by omega)).mp q))), zo31, h.2.2.2.2.2.1, if_pos rfl, zo31, zrf, zo31, zx37 (by omega), ht.2.1, zo31, zp31_7, zrf, zo31, zx38 (by omega), zo31, ht.1, if_pos (show Int32.ofNat 60 = 60 from rfl), c_fail, zci, zg_Teller_readAll_136_e, zn_add1]
        by_cases c : 4 ≤ zk g n k
        · rw [if_pos c, if_pos (by rw [zkO_1.mpr c]; rfl)]
          rfl
        · rw [if_neg c, e1, if_neg (fun q => c (zkO_1.mp ((zn_eq (by omega) (by decide)).mp q)))]
      rw [st]
      by_cases c : 4 ≤ zk g n k
      · have fl := zFl_fail (I := I) (f := 3) (p := zpt g n k) (k := k) (by omega) (by omega) h.2.2.1
        rw [if_pos c, c_raF X fl (by omega), if_neg c0, if_neg (by omega), if_pos rfl]
        exact ⟨_, rfl, zRA_fl fl⟩
      · obtain ⟨t1, t2⟩ := c_take X (b := b) (J := J) h (kd := 1) e1 (by decide)
        have fl := zFl_fail (I := I) (f := 1) (p := zpt g n k) (k := k) (by omega) (by omega) h.2.2.1
        rw [if_neg c, zg_Teller_readAll_109_e, zo31, t2 (fun q => c (zkO_1.mp q)), zci, if_pos rfl, zg_Teller_readAll_136_e, zn_add1, c_raF X fl (by omega), if_neg c0, if_pos (by omega)]
        exact ⟨_, rfl, zRA_fl fl⟩
  | succ m ih =>
    intro r k I K T hr h hv
    have hN := h.1.1
    have hk := h.2.1
    have ht := h.1.2.2.2 k hk
    have hkr : zkO (zk g n k) < 10 := zkO_lt (zkd_rng (g := g) (n := n) (zpt g n k))
    have n60 : ¬ (60 : Int32) < Int32.ofNat r := by rw [e60]; exact fun q => absurd ((zn_lt (by omega) (by omega)).mp q) (by omega)
    have n60' : ¬ Int32.ofNat r = 60 := by rw [e60]; exact fun q => absurd ((zn_eq (by omega) (by omega)).mp q) (by omega)
    rw [zTxt]
    by_cases c0 : zk g n k = 0
    · refine ⟨I, ?_, zfrO_refl I, Or.inl ⟨K, T, by rw [if_pos c0], h.2.2.2.1, hv, h.2.2.2.2.1, h.2.2.2.2.2.1, h.2.2.2.2.2.2⟩⟩
      rw [zg_Teller_readAll_47_e, if_neg n60, zo31, zM_P, zp31_6, zrf, zo31, zM_I, h.2.2.1, zx37 (by omega), ht.2.1, if_pos (by rw [zkO_0.mpr c0]; rfl), zg_Teller_readAll_142_e]
    · have st : zg_Teller_readAll_47 X 31 (Int32.ofNat r) (zM b I J) = zg_Teller_readAll_109 X 31 (Int32.ofNat r) (zM b I J) := by
        rw [zg_Teller_readAll_47_e, if_neg n60, zo31, zM_P, zp31_6, zrf, zo31, zM_I, h.2.2.1, zx37 (by omega), ht.2.1, if_neg (show ¬ Int32.ofNat (zkO (zk g n k)) = 0 from fun q => c0 (zkO_0.mp ((zke0 (by omega)).mp q))), zo31, h.2.2.2.2.2.1, if_pos rfl, zo31, zrf, zo31, zx37 (by omega), ht.2.1, if_neg n60']
        split <;> rfl
      obtain ⟨t1, t2⟩ := c_take X (b := b) (J := J) h (kd := 1) e1 (by decide)
      rw [st, if_neg c0]
      by_cases c : 4 ≤ zk g n k
      · have hlt := zTks_lt h.1 hk c0
        have h1 := zPO_next h hlt
        have f1 : zfrO I (zst I 31 9 (Int32.ofNat (k + 1))) := zfrO_st (Or.inr (Or.inr rfl))
        rw [if_neg (by omega), if_neg (by omega), zg_Teller_readAll_109_e, zo31, t1 (zkO_1.mpr c), zci, if_neg (by decide), zo31, zo31, zM_I, zst_self, zn_sub1 (by omega), show k + 1 - 1 = k by omega]
        generalize zst I 31 9 (Int32.ofNat (k + 1)) = I1 at *
        obtain ⟨I2, ⟨k', K', T', q1, q2, q3, q4, q5⟩ | ⟨f, p, q1, q2, q3⟩⟩ := c_readStatement X (b := b) (J := J) h1 hv c
        · obtain ⟨u1, u2⟩ := c_take X (b := b) (J := J) q3 (kd := 3) e3 (by decide)
          have hN' := q3.2.1
          rw [q2, zci, if_neg (by decide), zo31, q1]
          by_cases d : zk g n k' = 3
          · have hlt' := zTks_lt q3.1 q3.2.1 (by omega)
            obtain ⟨I3, w1, w2, w3⟩ := ih (r + 1) (k' + 1) (zst I2 31 9 (Int32.ofNat (k' + 1))) K' T' (by omega) (zPO_next q3 hlt') q4
            rw [u1 (zkO_3.mpr d), zci, zg_Teller_readAll_136_e, zn_add1, w1, zStop_y d]
            exact ⟨I3, rfl, zfrO_tr f1 (zfrO_tr q5 (zfrO_tr (zfrO_st (Or.inr (Or.inr rfl))) w2)), w3⟩
          · have fl := zFl_tr (zFl_tr (zFl_fail (I := I2) (f := 1) (p := zpt g n k') (k := k') (by omega) (by omega) q3.2.2.1) q5) f1
            rw [u2 (fun q => d (zkO_3.mp q)), zci, zg_Teller_readAll_136_e, zn_add1, c_raF X fl (by omega), zStop_n d]
            exact ⟨_, rfl, zRA_fl fl⟩
        · have fl := zFl_tr q3 f1
          rw [q2, zci, if_pos rfl, zg_Teller_readAll_136_e, zn_add1, c_raF X fl (by omega), q1]
          exact ⟨_, rfl, zRA_fl fl⟩
      · have fl := zFl_fail (I := I) (f := 1) (p := zpt g n k) (k := k) (by omega) (by omega) h.2.2.1
        rw [if_pos (by omega), zg_Teller_readAll_109_e, zo31, t2 (fun q => c (zkO_1.mp q)), zci, if_pos rfl, zg_Teller_readAll_136_e, zn_add1, c_raF X fl (by omega)]
        exact ⟨_, rfl, zRA_fl fl⟩
theorem c_readAll {n : Nat} (hT : zTO I g n) (hk : zKeys I 2 K) (hv : zKV K) (h6 : ∀ j, j < 8 → I 6 j = T j) : ∃ I', zg_Teller_readAll_0 X 31 1 (zM b I J) = some (none, zM b I' J) ∧ (∀ c, c ≠ 31 → (c < 33 ∨ 39 < c) → I' c = I c) ∧ (∀ j, j ≠ 4 → j ≠ 5 → j ≠ 9 → I' 31 j = I 31 j) ∧ ((∃ K' T', zTxt g n 61 0 K T = .inr (K', T') ∧ zKeys I' 33 K' ∧ zKV K' ∧ (∀ j, j < 8 → I' 36 j = T' j) ∧ I' 31 4 = 0 ∧ I' 31 5 = -1) ∨ ∃ f p, zTxt g n 61 0 K T = .inl (f, p) ∧ 1 ≤ f ∧ f ≤ 3 ∧ I' 31 4 = Int32.ofNat f ∧ I' 31 5 = Int32.ofNat p) := by
  obtain ⟨I1, a1, a2, a3⟩ := s_copyKeys X (b := b) (J := J) (a := 33) (a' := 2) (zKy_33 b) (zKy_2 b) (by decide) hk
  generalize hI2 : zst (zst (va_up I1 36 (va_cpy (I1 6) (I1 36) 0 0 8)) 31 4 0) 31 5 (-1) = I2
  have fr2 : ∀ c, c ≠ 31 → c ≠ 33 → c ≠ 34 → c ≠ 35 → c ≠ 36 → I2 c = I c := fun c c1 c2 c3 c4 c5 => by rw [← hI2, zst_ne c1, zst_ne c1, zup_ne c5, a3 c c2 c3 c4]
  have f31 : ∀ j, j ≠ 4 → j ≠ 5 → I2 31 j = I 31 j := fun j j1 j2 => by rw [← hI2, zst_off j2, zst_off j1, zup_ne (by decide), a3 31 (by decide) (by decide) (by decide)]
  have t2 : zTO I2 g n := zTO_fr hT (f31 1 (by decide) (by decide)) (fr2 32 (by decide) (by decide) (by decide) (by decide) (by decide))
  have k2 : zKeys I2 33 K := by
    unfold zKeys at *
    rw [← hI2, zst_ne (by decide), zst_ne (by decide), zup_ne (by decide), zst_ne (by decide), zst_ne (by decide), zup_ne (by decide), zst_ne (by decide), zst_ne (by decide), zup_ne (by decide)]
    exact a2
  have s2 : ∀ j, j < 8 → I2 36 j = T j := fun j hj => by
    rw [← hI2, zst_ne (by decide), zst_ne (by decide), zup_same]
    unfold va_cpy
    rw [if_pos (by omega), a3 6 (by decide) (by decide) (by decide), Nat.zero_add, Nat.sub_zero]
    exact h6 j hj
  obtain ⟨I3, N, b1, b2, b3⟩ := c_splitTape X (b := b) (J := J) t2
  have hPO : zPO (zst I3 31 9 0) g n N 0 K T := by
    refine ⟨?_, Nat.zero_le _, by rw [zst_self]; rfl, ?_, fun j hj => by rw [zst_ne (by decide), b3 36 (by decide) (by decide) (by decide)]; exact s2 j hj, ?_, ?_⟩
    · unfold zTks zTk at *
      rw [zst_ne (by decide), zst_ne (by decide), zst_ne (by decide)]
      exact b2
    · unfold zKeys at *
      rw [zst_ne (by decide), zst_ne (by decide), zst_ne (by decide), b3 33 (by decide) (by decide) (by decide), b3 (33 + 1) (by decide) (by decide) (by decide), b3 (33 + 2) (by decide) (by decide) (by decide)]
      exact k2
    · rw [zst_off (by decide), b3 31 (by decide) (by decide) (by decide), ← hI2, zst_off (by decide), zst_self]
    · rw [zst_off (by decide), b3 31 (by decide) (by decide) (by decide), ← hI2, zst_self]
  obtain ⟨I4, c1, c2, c3⟩ := c_ra47 X (b := b) (J := J) 60 0 0 (zst I3 31 9 0) K T (by omega) hPO hv
  have c1' : zg_Teller_readAll_47 X 31 0 (zM b (zst I3 31 9 0) J) = _ := c1
  refine ⟨I4, ?_, fun c d1 d2 => ?_, fun j j1 j2 j3 => ?_, c3⟩
  · have hac : ∀ {I : zI} {k : zv_M → Option zv_R}, zv_ac (zM b I J) 6 0 36 0 8 0 k = k (zM b (va_up I 36 (va_cpy (I 6) (I 36) 0 0 8)) J) := zac0 (a := 6) (b' := 36) (n := 8) (n' := 8) (m := 8) rfl rfl (by decide) (by decide) (by decide) (by decide) (by decide)
    rw [zg_Teller_readAll_0_e, zo31, zM_P, zp31_2, zrf, zo1, zp1_0, zrf, zo33, a1, zcv, zo1, zM_P, zp1_3, zrf, zo31, zp31_3, zrf, hac, zo31, zM_wI, zo31, zM_wI, zo31, hI2, b1, zcv, zo31, zM_wI, c1']
  · rw [c2.1 c d1 (by omega) (by omega) (by omega) (by omega), zst_ne d1, b3 c (by omega) (by omega) (by omega), fr2 c d1 (by omega) (by omega) (by omega) (by omega)]
  · rw [c2.2 j j1 j2 j3, zst_off j3, b3 31 (by decide) (by decide) (by decide), f31 j j1 j2]
end ZTF
