/-! the reference's reading -/
def zRv (R : List Int32) : Prop := R.Pairwise (· < ·) ∧ R.length ≤ 300
theorem zKR_of {K : zKL} {R : List Int32} (h : zKV K) (hR : zRv R) : zKR K R := ⟨h.1, hR.1, h.2.1, hR.2, h.2.2.1⟩
def zPM (I : zI) (g : Nat → Nat) (n k : Nat) (K : zKL) (T : zTT) (R : List Int32) : Prop := zTMr I g n ∧ zMt I g n (zpt g n k) ∧ zMK (I 182) K R ∧ (∀ j, j < 8 → I 182 j = T j) ∧ I 181 12 = 0
def zfrS (I I' : zI) : Prop := (∀ c, c ≠ 181 → c ≠ 182 → I' c = I c) ∧ (∀ j, j ≠ 8 → j ≠ 9 → j ≠ 10 → j ≠ 11 → j ≠ 12 → j ≠ 13 → j ≠ 16 → I' 181 j = I 181 j) ∧ ∀ i, (10 ≤ i ∧ i < 20) ∨ 1220 ≤ i → I' 182 i = I 182 i
theorem zfrS_refl (I : zI) : zfrS I I := ⟨fun _ _ _ => rfl, fun _ _ _ _ _ _ _ _ => rfl, fun _ _ => rfl⟩
theorem zfrS_tr {I I' I'' : zI} (h : zfrS I I') (h' : zfrS I' I'') : zfrS I I'' := ⟨fun c c1 c2 => (h'.1 c c1 c2).trans (h.1 c c1 c2), fun j j1 j2 j3 j4 j5 j6 j7 => (h'.2.1 j j1 j2 j3 j4 j5 j6 j7).trans (h.2.1 j j1 j2 j3 j4 j5 j6 j7), fun i hi => (h'.2.2 i hi).trans (h.2.2 i hi)⟩
theorem zfrS_st {I : zI} {j : Nat} {v : Int32} (hj : j = 8 ∨ j = 9 ∨ j = 10 ∨ j = 11 ∨ j = 12 ∨ j = 13 ∨ j = 16) : zfrS I (zst I 181 j v) := ⟨fun c hc _ => zst_ne hc, fun k k1 k2 k3 k4 k5 k6 k7 => zst_off (by omega), fun i _ => by rw [zst_ne (by decide)]⟩
theorem zfrS_N {I I' : zI} (h : zfrN I I') : zfrS I I' := ⟨fun c c1 _ => h.1 c c1, fun j j1 j2 j3 j4 _ _ _ => h.2 j j1 j2 j3 j4, fun i _ => by rw [h.1 182 (by decide)]⟩
theorem zfrS_K {I I' : zI} (h : zfrK I I') : zfrS I I' := ⟨fun c _ c2 => h.1 c c2, fun j _ _ _ _ _ _ _ => by rw [h.1 181 (by decide)], fun i hi => h.2 i (by omega)⟩
def zFm (I I' : zI) (f p : Nat) : Prop := I' 181 12 = Int32.ofNat f ∧ I' 181 13 = Int32.ofNat p ∧ 1 ≤ f ∧ f ≤ 3 ∧ zfrS I I'
theorem zFm_tr {I0 I I' : zI} {f p : Nat} (h : zFm I I' f p) (f0 : zfrS I0 I) : zFm I0 I' f p := ⟨h.1, h.2.1, h.2.2.1, h.2.2.2.1, zfrS_tr f0 h.2.2.2.2⟩
section ZTM
variable (X : zv_X) {b : Bool} {I : zI} {J : zJ} {g : Nat → Nat} {n k : Nat} {K : zKL} {T : zTT} {R : List Int32}
theorem m_bad (f p : Int32) : zg_M_bad_0 X 181 f p (zM b I J) = some (some (.int 0), zM b (zst (zst I 181 12 f) 181 13 p) J) := by
  rw [zg_M_bad_0_e, zo181, zM_wI, zo181, zM_wI, zrb0]
theorem zFm_bad {f p : Nat} (hf : 1 ≤ f ∧ f ≤ 3) : zFm I (zst (zst I 181 12 (Int32.ofNat f)) 181 13 (Int32.ofNat p)) f p :=
  ⟨by rw [zst_off (by decide), zst_self], zst_self, hf.1, hf.2, zfrS_tr (zfrS_st (by omega)) (zfrS_st (by omega))⟩
theorem m_next (h : zPM I g n k K T R) {I1 : zI} (h1 : ∀ c, c ≠ 181 → I1 c = I c) (h2 : ∀ j, j ≠ 16 → I1 181 j = I 181 j) : ∃ I', zg_M_next0_0 X 181 (zM b I1 J) = some (none, zM b I' J) ∧ zPM I' g n (k + 1) K T R ∧ I' 181 16 = I1 181 16 ∧ zfrS I I' := by
  obtain ⟨a1, a2, a3, a4, a5⟩ := h
  have t1 : zTMr I1 g n := by
    unfold zTMr at *
    rw [h1 187 (by decide), h2 7 (by decide)]
    exact a1
  obtain ⟨I', q1, q2, q3⟩ := m_next0 X (b := b) (J := J) (I := I1) (p := zbh g n (zpt g n k)) t1 (zbh_bd (zpt_le k)).2.1 (by rw [h2 8 (by decide)]; exact a2.2.2.1)
  have w : I' 182 = I 182 := by rw [q3.1 182 (by decide), h1 182 (by decide)]
  refine ⟨I', q1, ⟨zTMr_fr t1 q3, q2, by rw [w]; exact a3, by rw [w]; exact a4, ?_⟩, q3.2 16 (by decide) (by decide) (by decide) (by decide), zfrS_tr ⟨fun c c1 _ => h1 c c1, fun j _ _ _ _ _ _ j7 => h2 j j7, fun i _ => by rw [h1 182 (by decide)]⟩ (zfrS_N q3)⟩
  rw [q3.2 12 (by decide) (by decide) (by decide) (by decide), h2 12 (by decide)]
  exact a5
theorem m_number2 (h : zPM I g n k K T R) (lo hi : Int32) : (zk g n k = 2 ∧ ¬ (zvl g n (zpt g n k) < lo ∨ hi < zvl g n (zpt g n k)) ∧ ∃ I', zg_M_number_0 X 181 lo hi (zM b I J) = some (some (.int 1), zM b I' J) ∧ zPM I' g n (k + 1) K T R ∧ I' 181 16 = zvl g n (zpt g n k) ∧ zfrS I I') ∨ ∃ f p I', (∀ c, zNumK g n k lo hi c = .inl (f, p)) ∧ zg_M_number_0 X 181 lo hi (zM b I J) = some (some (.int 0), zM b I' J) ∧ zFm I I' f p := by
  have hr : zkd g n (zpt g n k) < 10 := zkd_rng (g := g) (n := n) (zpt g n k)
  have hr2 : zk g n k < 10 := hr
  have e2 : (2 : Int32) = Int32.ofNat 2 := rfl
  have ht := h.2.1
  by_cases c : zk g n k = 2
  · have hv := ht.2.2.2 c
    have st : zg_M_number_0 X 181 lo hi (zM b I J) = if zvl g n (zpt g n k) < lo ∨ hi < zvl g n (zpt g n k) then some (some (.int 0), zM b (zst (zst I 181 12 (Int32.ofNat 2)) 181 13 (Int32.ofNat (zpt g n k))) J) else zg_M_number_40 X 181 (zM b I J) := by
      conv => lhs; rw [zg_M_number_0_e, zo181, zM_I, ht.1, if_pos (show Int32.ofNat (zk g n k) = 2 by rw [c]; rfl), zg_M_number_18_e, zo181, zM_I, hv, m_isIn, zci, zif01, zo181, zo181, zM_I, ht.2.1, m_bad, zci, zrb0]
      rfl
    by_cases d : zvl g n (zpt g n k) < lo ∨ hi < zvl g n (zpt g n k)
    · refine Or.inr ⟨2, zpt g n k, _, fun cc => by unfold zNumK; rw [if_pos c, if_pos d], by rw [st, if_pos d], zFm_bad (by omega)⟩
    · obtain ⟨I', q1, q2, q3, q4⟩ := m_next X (b := b) (J := J) h (I1 := zst I 181 16 (zvl g n (zpt g n k))) (fun c hc => zst_ne hc) (fun j hj => zst_off hj)
      refine Or.inl ⟨c, d, I', ?_, q2, by rw [q3, zst_self], q4⟩
      rw [st, if_neg d, zg_M_number_40_e, zo181, zo181, zM_I, hv, zM_wI, zo181, q1, zcv, zrb1]
  · refine Or.inr ⟨1, zpt g n k, zst (zst I 181 12 (Int32.ofNat 1)) 181 13 (Int32.ofNat (zpt g n k)), fun cc => by unfold zNumK; rw [if_neg c], ?_, zFm_bad (by omega)⟩
    rw [zg_M_number_0_e, zo181, zM_I, ht.1, e2, if_neg (fun q => c ((zn_eq (by omega) (by decide)).mp q)), zo181, zo181, ht.2.1, m_bad, zci, zrb0]
    rfl
theorem zPM_chg {I' : zI} {K' : zKL} (h : zPM I g n k K T R) (hk : zMK (I' 182) K' R) (hf : zfrK I I') : zPM I' g n k K' T R := by
  obtain ⟨a1, a2, a3, a4, a5⟩ := h
  have w : I' 181 = I 181 := hf.1 181 (by decide)
  refine ⟨?_, ?_, hk, fun j hj => by rw [hf.2 j (by omega)]; exact a4 j hj, by rw [w]; exact a5⟩
  · unfold zTMr at *
    rw [w, hf.1 187 (by decide)]; exact a1
  · unfold zMt at *
    rw [w]; exact a2
theorem m_comes {x y : Int32} (h : zPM I g n k K T R) (hv : zKV K) (hR : zRv R) (hx : -999999999 ≤ x.toInt ∧ x.toInt ≤ 999999999) (hy : 1 ≤ y.toInt ∧ y.toInt ≤ 99) : (zno K x y ∧ zg_M_comes_0 X 181 x y (zM b I J) = some (some (.int 0), zM b I J)) ∨ (¬ zno K x y ∧ zKV (zset x (zcnt x K + y) K) ∧ ∃ I', zg_M_comes_0 X 181 x y (zM b I J) = some (some (.int 1), zM b I' J) ∧ zPM I' g n k (zset x (zcnt x K + y) K) T R ∧ zfrS I I' ∧ I' 181 = I 181) := by
  have hKR := zKR_of hv hR
  have hl := hv.2.1
  have hr := zcnt_rng (x := x) hv.2.2.1
  have e0 : (0 : Int32).toInt = 0 := rfl
  have z0 : (¬ 0 < zcnt x K) ↔ zcnt x K = 0 := by
    rw [zi_lt, zi_eq, e0]; omega
  have e3 : (300 : Int32) = Int32.ofNat 300 := rfl
  have st : zg_M_comes_0 X 181 x y (zM b I J) = if zno K x y then some (some (.int 0), zM b I J) else zg_M_comes_30 X 181 x y (zcnt x K) (zM b I J) := by
    conv => lhs; rw [zg_M_comes_0_e, zo181, m_count X h.2.2.1 hKR, zci, zo181, m_keys X h.2.2.1 hKR, zci, zg_M_comes_28_e, zrb0, e3]
    unfold zno
    by_cases c1 : 99 < zcnt x K + y
    · rw [if_pos c1, if_pos (Or.inl c1)]
    · rw [if_neg c1]
      by_cases c2 : zcnt x K = 0
      · rw [if_pos c2]
        by_cases c3 : K.length = 300
        · rw [if_pos (by rw [c3]), if_pos (Or.inr ⟨z0.mpr c2, by omega⟩)]
        · rw [if_neg (fun q => c3 ((zn_eq (by omega) (by decide)).mp q)), if_neg (fun q => q.elim c1 (fun q => absurd q.2 (by omega)))]
      · rw [if_neg c2, if_neg (fun q => q.elim c1 (fun q => c2 (z0.mp q.1)))]
  by_cases c : zno K x y
  · exact Or.inl ⟨c, by rw [st, if_pos c]⟩
  · obtain ⟨v1, v2, v3, v4⟩ := zcom_ok hv hx hy c
    obtain ⟨I', q1, q2, q3⟩ := m_counts X (b := b) (J := J) (x := x) (v := zcnt x K + y) h.2.2.1 hKR (by rw [zi_le, e0]; omega) v4.2.1
    refine Or.inr ⟨c, v4, I', ?_, zPM_chg h q2 q3, zfrS_K q3, q3.1 181 (by decide)⟩
    rw [st, if_neg c, zg_M_comes_30_e, zo181, q1, zcv, zrb1]
def zMO (b : Bool) (J : zJ) (g : Nat → Nat) (n : Nat) (R : List Int32) (I : zI) (call : Option zv_R) (o : zOut) : Prop := ∃ I', (∃ k' K' T', o = .inr (k', K', T') ∧ call = some (some (.int 1), zM b I' J) ∧ zPM I' g n k' K' T' R ∧ zKV K' ∧ zfrS I I') ∨ (∃ f p, o = .inl (f, p) ∧ call = some (some (.int 0), zM b I' J) ∧ zFm I I' f p)
theorem zMO_tr {I0 : zI} {call : Option zv_R} {o : zOut} (h : zMO b J g n R I call o) (f0 : zfrS I0 I) : zMO b J g n R I0 call o := by
  obtain ⟨I', ⟨k', K', T', h1, h2, h3, h4, h5⟩ | ⟨f, p, h1, h2, h3⟩⟩ := h
  · exact ⟨I', Or.inl ⟨k', K', T', h1, h2, h3, h4, zfrS_tr f0 h5⟩⟩
  · exact ⟨I', Or.inr ⟨f, p, h1, h2, zFm_tr h3 f0⟩⟩
theorem m_key45 {w : Nat} {x y : Int32} (h : zPM I g n k K T R) (hv : zKV K) (hR : zRv R) (hx : -999999999 ≤ x.toInt ∧ x.toInt ≤ 999999999) (hy : 1 ≤ y.toInt ∧ y.toInt ≤ 99) : zMO b J g n R I (zg_M_aKey_45 X 181 (Int32.ofNat (zpt g n w)) x y (zM b I J)) (zCom K T x y (zpt g n w) k) := by
  unfold zCom
  rcases m_comes X (b := b) (J := J) h hv hR hx hy with ⟨c, q1⟩ | ⟨c, v4, I', q1, q2, q3, q4⟩
  · refine ⟨zst (zst I 181 12 (Int32.ofNat 3)) 181 13 (Int32.ofNat (zpt g n w)), Or.inr ⟨3, zpt g n w, by rw [if_pos c], ?_, zFm_bad (by omega)⟩⟩
    rw [zg_M_aKey_45_e, zo181, q1, zci, if_pos rfl, zo181, m_bad, zci, if_pos rfl, zg_M_aKey_67_e, zg_M_aKey_68_e, zrb0]
    rfl
  · refine ⟨I', Or.inl ⟨_, _, _, by rw [if_neg c], ?_, q2, v4, q3⟩⟩
    rw [zg_M_aKey_45_e, zo181, q1, zci, if_neg (by decide), zg_M_aKey_63_e, zg_M_aKey_68_e, zrb1]
theorem m_aKey {w : Nat} (h : zPM I g n (w + 1) K T R) (hv : zKV K) (hR : zRv R) : zMO b J g n R I (zg_M_aKey_0 X 181 (Int32.ofNat (zpt g n w)) (zM b I J)) (zAKey g n w K T) := by
  unfold zAKey
  rcases m_number2 X (b := b) (J := J) h (-999999999) 999999999 with ⟨a1, a3, I1, a4, h1, e16, f1⟩ | ⟨f, p, I', a1, a2, a3⟩
  · rw [zNumK_y a1 a3]
    have hx := zbd9 a3
    generalize zvl g n (zpt g n (w + 1)) = x at *
    refine zMO_tr ?_ f1
    have hkr : zk g n (w + 2) < 10 := zkd_rng (g := g) (n := n) (zpt g n (w + 2))
    have e2 : (2 : Int32) = Int32.ofNat 2 := rfl
    have h9 : I1 181 9 = Int32.ofNat (zk g n (w + 2)) := h1.2.1.1
    have st : zg_M_aKey_0 X 181 (Int32.ofNat (zpt g n w)) (zM b I J) = if zk g n (w + 2) = 2 then zv_ci (zg_M_number_0 X 181 1 99 (zM b I1 J)) (fun v2 M1 => if v2 = 0 then zv_rb 0 M1 else zg_M_aKey_40 X 181 (Int32.ofNat (zpt g n w)) x M1) else zg_M_aKey_45 X 181 (Int32.ofNat (zpt g n w)) x 1 (zM b I1 J) := by
      rw [zg_M_aKey_0_e, zo181, a4, zci, if_neg (by decide), zg_M_aKey_13_e, zo181, zo181, zM_I, h9, e16, zo181, e2]
      by_cases c : zk g n (w + 2) = 2
      · rw [if_pos c, if_pos (by rw [c])]
      · rw [if_neg c, if_neg (fun q => c ((zn_eq (by omega) (by decide)).mp q))]
    rw [st]
    by_cases d : zk g n (w + 2) = 2
    · rw [if_pos d, if_pos d]
      rcases m_number2 X (b := b) (J := J) h1 1 99 with ⟨b1, b3, I2, b4, h2, e16', f2⟩ | ⟨f, p, I', b1, b2, b3⟩
      · have hn : zNumK g n (w + 2) 1 99 (fun y => zCom K T x y (zpt g n w) (w + 3)) = zCom K T x (zvl g n (zpt g n (w + 2))) (zpt g n w) (w + 3) := zNumK_y b1 b3
        have hy := zNumK_in b3
        have c1 : (1 : Int32).toInt = 1 := rfl
        have c2 : (99 : Int32).toInt = 99 := rfl
        rw [c1, c2] at hy
        rw [hn, b4, zci, if_neg (by decide), zg_M_aKey_40_e, zo181, zM_I, e16']
        exact zMO_tr (m_key45 X h2 hv hR hx hy) f2
      · refine ⟨I', Or.inr ⟨f, p, b1 _, ?_, b3⟩⟩
        rw [b2, zci, if_pos rfl, zrb0]
    · rw [if_neg d, if_neg d]
      exact m_key45 X h1 hv hR hx (by decide)
  · refine ⟨I', Or.inr ⟨f, p, a1 _, ?_, a3⟩⟩
    rw [zg_M_aKey_0_e, zo181, a2, zci, if_pos rfl, zrb0]
theorem m_run84 {w : Nat} {x s m : Int32} (hR : zRv R) (hm : 1 ≤ m.toInt ∧ m.toInt ≤ 99) (hs : 1 ≤ s.toInt ∧ s.toInt ≤ 99999) (hx : -999999999 ≤ x.toInt) (hb : x.toInt + (m.toInt - 1) * s.toInt ≤ 999999999) : ∀ (r i : Nat) (I : zI) (K : zKL), i + r = m.toInt.toNat → zPM I g n k K T R → I 181 16 = s → zKV K → zMO b J g n R I (zg_M_aRun_84 X 181 (Int32.ofNat (zpt g n w)) x m (Int32.ofNat i) (zM b I J)) (zRunO T (zpt g n w) k (zRunL x s r i K)) := by
  intro r
  induction r with
  | zero =>
    intro i I K hi h h16 hv
    refine ⟨I, Or.inl ⟨_, _, _, rfl, ?_, h, hv, zfrS_refl I⟩⟩
    rw [zg_M_aRun_84_e, if_pos (by rw [zi_le, zn_int (by omega)]; omega), zg_M_aRun_120_e, zrb1]
  | succ r ih =>
    intro i I K hi h h16 hv
    have hlt : ¬ m ≤ Int32.ofNat i := by rw [zi_le, zn_int (by omega)]; omega
    have ei : (Int32.ofNat i).toInt = i := zn_int (by omega)
    have hi1 : (i : Int) * s.toInt ≤ (m.toInt - 1) * s.toInt := Int.mul_le_mul_of_nonneg_right (by omega) (by omega)
    have hi0 : 0 ≤ (i : Int) * s.toInt := Int.mul_nonneg (by omega) (by omega)
    have hi2 : (i : Int) * s.toInt ≤ 98 * 99999 := Int.mul_le_mul (by omega) (by omega) (by omega) (by omega)
    have ep : (Int32.ofNat i * s).toInt = i * s.toInt := by rw [zi_mul (by rw [ei]; omega) (by rw [ei]; omega), ei]
    have ey : (x + Int32.ofNat i * s).toInt = x.toInt + i * s.toInt := by rw [zi_add (by rw [ep]; omega) (by rw [ep]; omega), ep]
    unfold zRunL
    rw [zg_M_aRun_84_e, if_neg hlt, zo181, zo181, zM_I, h16]
    generalize x + Int32.ofNat i * s = y at *
    rcases m_comes X (b := b) (J := J) (x := y) (y := 1) h hv hR (by omega) (by decide) with ⟨c, q1⟩ | ⟨c, v4, I', q1, q2, q3, q4⟩
    · rw [if_pos c]
      refine ⟨zst (zst I 181 12 (Int32.ofNat 3)) 181 13 (Int32.ofNat (zpt g n w)), Or.inr ⟨3, zpt g n w, rfl, ?_, zFm_bad (by omega)⟩⟩
      rw [q1, zci, if_pos rfl, zo181, m_bad, zci, zrb0]
      rfl
    · rw [if_neg c, q1, zci, if_neg (by decide), zg_M_aRun_114_e, zn_add1]
      exact zMO_tr (ih (i + 1) I' _ (by omega) q2 (by rw [q4]; exact h16) v4) q3
theorem m_aRun {w : Nat} (h : zPM I g n (w + 1) K T R) (hv : zKV K) (hR : zRv R) : zMO b J g n R I (zg_M_aRun_0 X 181 (Int32.ofNat (zpt g n w)) (zM b I J)) (zARun g n w K T) := by
  unfold zARun
  rcases m_number2 X (b := b) (J := J) h (-999999999) 999999999 with ⟨a1, a3, I1, a4, h1, v1, f1⟩ | ⟨f, p, I', a1, a2, a3⟩
  · rw [zNumK_y a1 a3]
    have hx := zbd9 a3
    generalize zvl g n (zpt g n (w + 1)) = x at *
    rcases m_number2 X (b := b) (J := J) h1 1 99 with ⟨b1, b3, I2, b4, h2, v2, f2⟩ | ⟨f, p, I', b1, b2, b3⟩
    · have e2 : zNumK g n (w + 2) 1 99 (fun m => zNumK g n (w + 3) 1 99999 (fun s => if 999999999 < x + (m - 1) * s then .inl (2, zpt g n (w + 3)) else zRunO T (zpt g n w) (w + 4) (zRunL x s m.toInt.toNat 0 K))) = _ := zNumK_y b1 b3
      rw [e2]
      have hm := zNumK_in b3
      generalize zvl g n (zpt g n (w + 1 + 1)) = m at *
      rcases m_number2 X (b := b) (J := J) h2 1 99999 with ⟨c1, c3, I3, c4, h3, v3, f3⟩ | ⟨f, p, I', c1, c2, c3⟩
      · have e3 : zNumK g n (w + 3) 1 99999 (fun s => if 999999999 < x + (m - 1) * s then .inl (2, zpt g n (w + 3)) else zRunO T (zpt g n w) (w + 4) (zRunL x s m.toInt.toNat 0 K)) = _ := zNumK_y c1 c3
        rw [e3]
        have hs := zNumK_in c3
        have hp3 : I2 181 10 = Int32.ofNat (zpt g n (w + 3)) := h2.2.1.2.1
        generalize zvl g n (zpt g n (w + 1 + 1 + 1)) = s at *
        have k1 : (1 : Int32).toInt = 1 := rfl
        have k2 : (99 : Int32).toInt = 99 := rfl
        have k3 : (99999 : Int32).toInt = 99999 := rfl
        have k9 : (999999999 : Int32).toInt = 999999999 := rfl
        have k9' : (999999999 : Int64).toInt = 999999999 := rfl
        rw [k1, k2] at hm
        rw [k1, k3] at hs
        have f03 := zfrS_tr f1 (zfrS_tr f2 f3)
        have em : (m - 1).toInt = m.toInt - 1 := by rw [zi_sub (by rw [k1]; omega) (by rw [k1]; omega), k1]
        have hq0 : 0 ≤ (m.toInt - 1) * s.toInt := Int.mul_nonneg (by omega) (by omega)
        have hq2 : (m.toInt - 1) * s.toInt ≤ 98 * 99999 := Int.mul_le_mul (by omega) (by omega) (by omega) (by omega)
        have ep : ((m - 1) * s).toInt = (m.toInt - 1) * s.toInt := by rw [zi_mul (by rw [em]; omega) (by rw [em]; omega), em]
        have ey : (x + (m - 1) * s).toInt = x.toInt + (m.toInt - 1) * s.toInt := by rw [zi_add (by rw [ep]; omega) (by rw [ep]; omega), ep]
        have eL : (Int32.toInt64 x + Int32.toInt64 (m - 1) * Int32.toInt64 s).toInt = x.toInt + (m.toInt - 1) * s.toInt := by
          have e5 : (Int32.toInt64 (m - 1) * Int32.toInt64 s).toInt = (m.toInt - 1) * s.toInt := by
            rw [zl_mul (by rw [Int32.toInt_toInt64, Int32.toInt_toInt64, em]; omega) (by rw [Int32.toInt_toInt64, Int32.toInt_toInt64, em]; omega), Int32.toInt_toInt64, Int32.toInt_toInt64, em]
          rw [zl_add (by rw [Int32.toInt_toInt64, e5]; omega) (by rw [Int32.toInt_toInt64, e5]; omega), Int32.toInt_toInt64, e5]
        have st : zg_M_aRun_0 X 181 (Int32.ofNat (zpt g n w)) (zM b I J) = if 999999999 < x + (m - 1) * s then some (some (.int 0), zM b (zst (zst I3 181 12 (Int32.ofNat 2)) 181 13 (Int32.ofNat (zpt g n (w + 3)))) J) else zg_M_aRun_84 X 181 (Int32.ofNat (zpt g n w)) x m 0 (zM b I3 J) := by
          conv => lhs; rw [zg_M_aRun_0_e, zo181, a4, zci, if_neg (by decide), zg_M_aRun_13_e, zo181, zo181, zM_I, v1, b4, zci, if_neg (by decide), zg_M_aRun_30_e, zo181, zo181, zo181, zM_I, v2, hp3, c4, zci, if_neg (by decide), zg_M_aRun_53_e, zo181, zM_I, v3, zo181, m_bad, zci, zrb0, zg_M_aRun_81_e]
          by_cases d : 999999999 < x + (m - 1) * s
          · rw [if_pos d, if_neg (by rw [lg_cmp_le, zl_le, eL, k9']; rw [zi_lt, ey, k9] at d; omega)]
            rfl
          · rw [if_neg d, if_pos (by rw [lg_cmp_le, zl_le, eL, k9']; rw [zi_lt, ey, k9] at d; omega)]
        rw [st]
        by_cases d : 999999999 < x + (m - 1) * s
        · rw [if_pos d, if_pos d]
          exact ⟨_, Or.inr ⟨2, zpt g n (w + 3), rfl, rfl, zFm_tr (zFm_bad (by omega)) f03⟩⟩
        · rw [if_neg d, if_neg d]
          have hb : x.toInt + (m.toInt - 1) * s.toInt ≤ 999999999 := by
            rw [zi_lt, ey, k9] at d; omega
          have := m_run84 X (b := b) (J := J) (g := g) (n := n) (k := w + 1 + 1 + 1 + 1) (T := T) (w := w) (x := x) (s := s) (m := m) hR hm hs hx.1 hb m.toInt.toNat 0 I3 K (Nat.zero_add _) h3 v3 hv
          exact zMO_tr this f03
      · refine ⟨I', Or.inr ⟨f, p, c1 _, ?_, zFm_tr c3 (zfrS_tr f1 f2)⟩⟩
        rw [zg_M_aRun_0_e, zo181, a4, zci, if_neg (by decide), zg_M_aRun_13_e, zo181, zo181, zM_I, v1, b4, zci, if_neg (by decide), zg_M_aRun_30_e, zo181, zo181, zo181, c2, zci, if_pos rfl, zrb0]
    · refine ⟨I', Or.inr ⟨f, p, b1 _, ?_, zFm_tr b3 f1⟩⟩
      rw [zg_M_aRun_0_e, zo181, a4, zci, if_neg (by decide), zg_M_aRun_13_e, zo181, zo181, b2, zci, if_pos rfl, zrb0]
  · refine ⟨I', Or.inr ⟨f, p, a1 _, ?_, a3⟩⟩
    rw [zg_M_aRun_0_e, zo181, a2, zci, if_pos rfl, zrb0]
end ZTM
