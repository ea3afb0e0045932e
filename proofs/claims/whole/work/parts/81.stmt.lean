/-! the reference reads statements, and the whole text -/
section ZTS
variable (X : zv_X) {b : Bool} {I : zI} {J : zJ} {g : Nat → Nat} {n k : Nat} {K : zKL} {T : zTT} {R : List Int32}
/-- behind a statement: its end, or a fault -/
theorem m_156 {call : Option zv_R} {o : zOut} (h : zMO b J g n R I call o) : zMO b J g n R I (zv_ci call (fun v M1 => zg_M_statement_156 X 181 v M1)) (zStop g n o) := by
  obtain ⟨I', ⟨k', K', T', h1, h2, h3, h4, h5⟩ | ⟨f, p, h1, h2, h3⟩⟩ := h
  · have hr : zkd g n (zpt g n k') < 10 := zkd_rng (g := g) (n := n) (zpt g n k')
    have hr2 : zk g n k' < 10 := hr
    have e3 : (3 : Int32) = Int32.ofNat 3 := rfl
    have h9 : I' 181 9 = Int32.ofNat (zk g n k') := h3.2.1.1
    rw [h1, h2, zci, zg_M_statement_156_e, if_neg (by decide), zg_M_statement_163_e, zo181, zM_I, h9, e3]
    by_cases c : zk g n k' = 3
    · obtain ⟨I2, q1, q2, -, q4⟩ := m_next X (b := b) (J := J) h3 (I1 := I') (fun _ _ => rfl) (fun _ _ => rfl)
      rw [zStop_y c, if_pos (by rw [c]), zg_M_statement_181_e, zo181, q1, zcv, zrb1]
      exact ⟨I2, Or.inl ⟨_, _, _, rfl, rfl, q2, h4, zfrS_tr h5 q4⟩⟩
    · rw [zStop_n c, if_neg (fun q => c ((zn_eq (by omega) (by decide)).mp q)), zo181, zo181, h3.2.1.2.1, m_bad, zci, zrb0]
      exact ⟨_, Or.inr ⟨1, zpt g n k', rfl, rfl, zFm_tr (zFm_bad (f := 1) (p := zpt g n k') (by omega)) h5⟩⟩
  · rw [h1, h2, zci, zg_M_statement_156_e, if_pos rfl, zrb0]
    exact ⟨I', Or.inr ⟨f, p, rfl, rfl, h3⟩⟩
theorem zset0 {x : Int32} (hv : zKV K) (hx : -999999999 ≤ x.toInt ∧ x.toInt ≤ 999999999) : zKV (zset x 0 K) := zKV_set hv hx (by decide) (Or.inl rfl)
theorem m_drop83 {w : Nat} (h : zPM I g n (w + 1) K T R) (hv : zKV K) (hR : zRv R) : zMO b J g n R I (zg_M_statement_83 X 181 6 (zM b I J)) (zStop g n (zADrop g n w K T)) := by
  unfold zADrop
  rcases m_number2 X (b := b) (J := J) h (-999999999) 999999999 with ⟨a1, a3, I1, a4, h1, e16, f1⟩ | ⟨f, p, I', a1, a2, a3⟩
  · have hx := zbd9 a3
    rw [zNumK_y a1 a3]
    generalize zvl g n (zpt g n (w + 1)) = x at *
    have v4 := zset0 (x := x) hv hx
    obtain ⟨I2, q1, q2, q3⟩ := m_counts X (b := b) (J := J) (I := I1) (x := x) (v := 0) h1.2.2.1 (zKR_of hv hR) (by decide) v4.2.1
    have hM : zMO b J g n R I (some (some (.int 1), zM b I2 J)) (.inr (w + 2, zset x 0 K, T)) := ⟨I2, Or.inl ⟨_, _, _, rfl, rfl, zPM_chg h1 q2 q3, v4, zfrS_tr f1 (zfrS_K q3)⟩⟩
    have := m_156 X hM
    rw [zci] at this
    rw [zg_M_statement_83_e, if_pos rfl, zo181, a4, zci, if_neg (by decide), zo181, zo181, zM_I, e16, q1, zcv]
    exact this
  · have hM : zMO b J g n R I (some (some (.int 0), zM b I' J)) (.inl (f, p)) := ⟨I', Or.inr ⟨f, p, rfl, rfl, a3⟩⟩
    have := m_156 X hM
    rw [zci] at this
    rw [a1, zg_M_statement_83_e, if_pos rfl, zo181, a2, zci, if_pos rfl]
    exact this
theorem m_set116 {w s : Nat} (hs : s < 3) (h : zPM I g n (w + 1) K T R) (hv : zKV K) : zMO b J g n R I (zg_M_statement_116 X 181 (Int32.ofNat (s + 7)) (zM b I J)) (zStop g n (zASet g n s w K T)) := by
  have st : zg_M_statement_116 X 181 (Int32.ofNat (s + 7)) (zM b I J) = zg_M_statement_131 X 181 (Int32.ofNat (s + 7)) (if s = 2 then 50 else 20) 0 181 (zM b I J) := by
    have : s = 0 ∨ s = 1 ∨ s = 2 := by omega
    rcases this with rfl | rfl | rfl
    · rw [zg_M_statement_116_e, if_neg (by decide), zg_M_statement_129_e, if_neg (by decide)]
    · rw [zg_M_statement_116_e, if_neg (by decide), zg_M_statement_129_e, if_neg (by decide)]
    · rw [zg_M_statement_116_e, if_pos (by decide), if_pos rfl]
  unfold zASet
  rw [st]
  rcases m_number2 X (b := b) (J := J) h 0 (if s = 2 then 50 else 20) with ⟨a1, a3, I1, a4, h1, e16, f1⟩ | ⟨f, p, I', a1, a2, a3⟩
  · rw [zNumK_y a1 a3]
    generalize zvl g n (zpt g n (w + 1)) = v at *
    have ix : ((0 : Int32) + Int32.ofNat (s + 7)) - 7 = Int32.ofNat s := by
      have : s = 0 ∨ s = 1 ∨ s = 2 := by omega
      rcases this with rfl | rfl | rfl <;> rfl
    have hP : zPM (zst I1 182 s v) g n (w + 1 + 1) K (zTu T s v) R := by
      obtain ⟨b1, b2, b3, b4, b5⟩ := h1
      refine ⟨?_, ?_, ?_, fun j hj => ?_, by rw [zst_ne (by decide)]; exact b5⟩
      · unfold zTMr at *
        rw [zst_ne (by decide), zst_ne (by decide)]; exact b1
      · unfold zMt at *
        rw [zst_ne (by decide)]; exact b2
      · unfold zMK at *
        have e : ∀ i, 8 ≤ i → zst I1 182 s v 182 i = I1 182 i := fun i hi => zst_off (by omega)
        obtain ⟨c1, c2, c3, c4, c5, c6⟩ := b3
        exact ⟨by rw [e 8 (by omega)]; exact c1, by rw [e 9 (by omega)]; exact c2, fun j u hj => by show zst I1 182 s v 182 (20 + j) = u; rw [e _ (by omega)]; exact c3 j u hj, fun j u hj => by show zst I1 182 s v 182 (320 + j) = u; rw [e _ (by omega)]; exact c4 j u hj, fun j u hj => by show zst I1 182 s v 182 (620 + j) = u; rw [e _ (by omega)]; exact c5 j u hj, fun j u hj => by show zst I1 182 s v 182 (920 + j) = u; rw [e _ (by omega)]; exact c6 j u hj⟩
      · unfold zTu
        by_cases c : j = s
        · rw [if_pos c, c, zst_self]
        · rw [if_neg c, zst_off c]; exact b4 j hj
    have hf : zfrS I (zst I1 182 s v) := zfrS_tr f1 ⟨fun c _ c2 => zst_ne c2, fun j _ _ _ _ _ _ _ => by rw [zst_ne (by decide)], fun i hi => zst_off (by omega)⟩
    have hM : zMO b J g n R I (some (some (.int 1), zM b (zst I1 182 s v) J)) (.inr (w + 2, K, zTu T s v)) := ⟨_, Or.inl ⟨_, _, _, rfl, rfl, hP, hv, hf⟩⟩
    have := m_156 X hM
    rw [zci] at this
    rw [zg_M_statement_131_e, zo181, a4, zci, if_neg (by decide), zo181, zM_P, zp181_0, zrf, zo181, ix, zx182 (by omega), zM_wI, zM_I, e16]
    exact this
  · have hM : zMO b J g n R I (some (some (.int 0), zM b I' J)) (.inl (f, p)) := ⟨I', Or.inr ⟨f, p, rfl, rfl, a3⟩⟩
    have := m_156 X hM
    rw [zci] at this
    rw [a1, zg_M_statement_131_e, zo181, a2, zci, if_pos rfl]
    exact this
theorem m_stm46 {w : Nat} (h : zPM I g n w K T R) (hv : zKV K) (hR : zRv R) (hk : 4 ≤ zk g n w) : zMO b J g n R I (zg_M_statement_46 X 181 (Int32.ofNat (zpt g n w)) (Int32.ofNat (zk g n w)) (zM b I J)) (zStop g n (zStm g n w K T)) := by
  have hr : zk g n w < 10 := zkd_rng (g := g) (n := n) (zpt g n w)
  obtain ⟨I1, q1, q2, -, q4⟩ := m_next X (b := b) (J := J) h (I1 := I) (fun _ _ => rfl) (fun _ _ => rfl)
  refine zMO_tr ?_ q4
  unfold zStm
  rw [zg_M_statement_46_e, zo181, q1, zcv]
  have hc : zk g n w = 4 ∨ zk g n w = 5 ∨ zk g n w = 6 ∨ zk g n w = 7 ∨ zk g n w = 8 ∨ zk g n w = 9 := by omega
  rcases hc with c | c | c | c | c | c <;> rw [c]
  · have := m_156 X (m_aKey X (b := b) (J := J) q2 hv hR)
    have e : zg_M_statement_60 X 181 (Int32.ofNat (zpt g n w)) (Int32.ofNat 4) (zM b I1 J) = zv_ci (zg_M_aKey_0 X 181 (Int32.ofNat (zpt g n w)) (zM b I1 J)) (fun v M1 => zg_M_statement_156 X 181 v M1) := by
      rw [zg_M_statement_60_e, if_pos (show Int32.ofNat 4 = 4 from rfl), zo181]
      simp only [zg_M_statement_78_e]
    rw [if_pos (show Int32.ofNat 4 = 4 from rfl), e, if_pos rfl]
    exact this
  · have := m_156 X (m_aRun X (b := b) (J := J) q2 hv hR)
    have e : zg_M_statement_60 X 181 (Int32.ofNat (zpt g n w)) (Int32.ofNat 5) (zM b I1 J) = zv_ci (zg_M_aRun_0 X 181 (Int32.ofNat (zpt g n w)) (zM b I1 J)) (fun v M1 => zg_M_statement_156 X 181 v M1) := by
      rw [zg_M_statement_60_e, if_neg (by decide), zg_M_statement_73_e, zo181]
      simp only [zg_M_statement_78_e]
    rw [if_neg (show ¬ Int32.ofNat 5 = 4 by decide), if_pos (show Int32.ofNat 5 = 5 from rfl), e, if_neg (by decide), if_pos rfl]
    exact this
  · have := m_drop83 X (b := b) (J := J) q2 hv hR
    rw [if_neg (show ¬ Int32.ofNat 6 = 4 by decide), if_neg (show ¬ Int32.ofNat 6 = 5 by decide), if_neg (show ¬ 6 = 4 by decide), if_neg (show ¬ 6 = 5 by decide), if_pos rfl]
    exact this
  · have := m_set116 X (b := b) (J := J) (s := 0) (by decide) q2 hv
    rw [if_neg (show ¬ Int32.ofNat 7 = 4 by decide), if_neg (show ¬ Int32.ofNat 7 = 5 by decide), if_neg (show ¬ 7 = 4 by decide), if_neg (show ¬ 7 = 5 by decide), if_neg (show ¬ 7 = 6 by decide), zg_M_statement_83_e, if_neg (by decide)]
    exact this
  · have := m_set116 X (b := b) (J := J) (s := 1) (by decide) q2 hv
    rw [if_neg (show ¬ Int32.ofNat 8 = 4 by decide), if_neg (show ¬ Int32.ofNat 8 = 5 by decide), if_neg (show ¬ 8 = 4 by decide), if_neg (show ¬ 8 = 5 by decide), if_neg (show ¬ 8 = 6 by decide), zg_M_statement_83_e, if_neg (by decide)]
    exact this
  · have := m_set116 X (b := b) (J := J) (s := 2) (by decide) q2 hv
    rw [if_neg (show ¬ Int32.ofNat 9 = 4 by decide), if_neg (show ¬ Int32.ofNat 9 = 5 by decide), if_neg (show ¬ 9 = 4 by decide), if_neg (show ¬ 9 = 5 by decide), if_neg (show ¬ 9 = 6 by decide), zg_M_statement_83_e, if_neg (by decide)]
    exact this
def zMRA (I0 I : zI) (R : List Int32) (good : Int32) (o : (Nat × Nat) ⊕ (zKL × zTT)) : Prop := zfrS I0 I ∧ ((∃ K T, o = .inr (K, T) ∧ good = 1 ∧ zMK (I 182) K R ∧ zKV K ∧ (∀ j, j < 8 → I 182 j = T j) ∧ I 181 12 = 0) ∨ ∃ f p, o = .inl (f, p) ∧ good = 0 ∧ 1 ≤ f ∧ f ≤ 3 ∧ I 181 12 = Int32.ofNat f ∧ I 181 13 = Int32.ofNat p)
theorem zMRA_fl {I0 I : zI} {f p : Nat} (h : zFm I0 I f p) : zMRA I0 I R 0 (.inl (f, p)) := ⟨h.2.2.2.2, Or.inr ⟨f, p, rfl, rfl, h.2.2.1, h.2.2.2.1, h.1, h.2.1⟩⟩
theorem m_tx45 (hR : zRv R) : ∀ (m r k : Nat) (I : zI) (K : zKL) (T : zTT), r + (m + 1) = 61 → zPM I g n k K T R → zKV K → ∃ I' good, zg_M_text_45 X 181 1 (Int32.ofNat r) (zM b I J) = zg_M_text_68 X 181 good (zM b I' J) ∧ zMRA I I' R good (zTxt g n (m + 1) k K T) := by
  have e60 : (60 : Int32) = Int32.ofNat 60 := rfl
  have flt : ∀ (I : zI) (l : Int32), zg_M_text_45 X 181 0 l (zM b I J) = zg_M_text_68 X 181 0 (zM b I J) := fun I l => by rw [zg_M_text_45_e, if_pos rfl]
  intro m
  induction m with
  | zero =>
    intro r k I K T hr h hv
    have hk1 : zk g n k < 10 := zkd_rng (g := g) (n := n) (zpt g n k)
    have h9 : I 181 9 = Int32.ofNat (zk g n k) := h.2.1.1
    have hr60 : r = 60 := by omega
    subst hr60
    unfold zTxt
    by_cases c0 : zk g n k = 0
    · refine ⟨I, 1, ?_, zfrS_refl I, Or.inl ⟨K, T, by rw [if_pos c0], rfl, h.2.2.1, hv, h.2.2.2.1, h.2.2.2.2⟩⟩
      rw [zg_M_text_45_e, if_neg (by decide), zo181, zM_I, h9, if_pos (by rw [c0]; rfl)]
    · have e4 : (4 : Int32) = Int32.ofNat 4 := rfl
      have e9 : (9 : Int32) = Int32.ofNat 9 := rfl
      have hin : (Int32.ofNat (zk g n k) < 4 ∨ 9 < Int32.ofNat (zk g n k)) ↔ zk g n k < 4 := by
        rw [e4, e9, zn_lt (by omega) (by decide), zn_lt (by decide) (by omega)]; omega
      have st : zg_M_text_45 X 181 1 (Int32.ofNat 60) (zM b I J) = zg_M_text_45 X 181 0 (Int32.ofNat 60 + 1) (zM b (zst (zst I 181 12 (Int32.ofNat (if zk g n k < 4 then 1 else 3))) 181 13 (Int32.ofNat (zpt g n k))) J) := by
        conv => lhs; rw [zg_M_text_45_e, if_neg (by decide), zo181, zM_I, h9, if_neg (fun q => c0 ((zke0 (by omega)).mp q)), zo181, zg_M_statement_0_e, zo181, zo181, zM_I, h9, h.2.1.2.1, m_isIn, zci, zif01, zo181, zo181, zM_I, h.2.1.2.1, m_bad, zci, zrb0, zg_M_statement_30_e, if_pos (show Int32.ofNat 60 = 60 from rfl), zo181, zo181, zM_I, h.2.1.2.1, m_bad, zci, zrb0]
        by_cases c : zk g n k < 4
        · rw [if_pos (hin.mpr c), if_pos c, zci]
          rfl
        · rw [if_neg (fun q => c (hin.mp q)), if_neg c, zci]
          rfl
      rw [st, flt, if_neg c0, if_pos rfl]
      by_cases c : zk g n k < 4
      · rw [if_pos c, if_pos c]
        exact ⟨_, _, rfl, zMRA_fl (zFm_bad (by omega))⟩
      · rw [if_neg c, if_neg c]
        exact ⟨_, _, rfl, zMRA_fl (zFm_bad (by omega))⟩
  | succ m ih =>
    intro r k I K T hr h hv
    have hk1 : zk g n k < 10 := zkd_rng (g := g) (n := n) (zpt g n k)
    have h9 : I 181 9 = Int32.ofNat (zk g n k) := h.2.1.1
    have e4 : (4 : Int32) = Int32.ofNat 4 := rfl
    have e9 : (9 : Int32) = Int32.ofNat 9 := rfl
    have hin : (Int32.ofNat (zk g n k) < 4 ∨ 9 < Int32.ofNat (zk g n k)) ↔ zk g n k < 4 := by
      rw [e4, e9, zn_lt (by omega) (by decide), zn_lt (by decide) (by omega)]; omega
    rw [zTxt]
    by_cases c0 : zk g n k = 0
    · refine ⟨I, 1, ?_, zfrS_refl I, Or.inl ⟨K, T, by rw [if_pos c0], rfl, h.2.2.1, hv, h.2.2.2.1, h.2.2.2.2⟩⟩
      rw [zg_M_text_45_e, if_neg (by decide), zo181, zM_I, h9, if_pos (by rw [c0]; rfl)]
    · have st : zg_M_text_45 X 181 1 (Int32.ofNat r) (zM b I J) = if zk g n k < 4 then zg_M_text_45 X 181 0 (Int32.ofNat r + 1) (zM b (zst (zst I 181 12 (Int32.ofNat 1)) 181 13 (Int32.ofNat (zpt g n k))) J) else zv_ci (zg_M_statement_46 X 181 (Int32.ofNat (zpt g n k)) (Int32.ofNat (zk g n k)) (zM b I J)) (fun v2 M1 => zg_M_text_45 X 181 v2 (Int32.ofNat r + 1) M1) := by
        conv => lhs; rw [zg_M_text_45_e, if_neg (by decide), zo181, zM_I, h9, if_neg (fun q => c0 ((zke0 (by omega)).mp q)), zo181, zg_M_statement_0_e, zo181, zo181, zM_I, h9, h.2.1.2.1, m_isIn, zci, zif01, zo181, zo181, zM_I, h.2.1.2.1, m_bad, zci, zrb0, zg_M_statement_30_e, if_neg (show ¬ Int32.ofNat r = 60 by rw [e60]; exact fun q => absurd ((zn_eq (by omega) (by omega)).mp q) (by omega))]
        by_cases c : zk g n k < 4
        · rw [if_pos (hin.mpr c), if_pos c, zci]
          rfl
        · rw [if_neg (fun q => c (hin.mp q)), if_neg c]
      rw [st, if_neg c0]
      by_cases c : zk g n k < 4
      · rw [if_pos c, if_pos c, flt]
        exact ⟨_, _, rfl, zMRA_fl (zFm_bad (by omega))⟩
      · rw [if_neg c, if_neg c, if_neg (by omega)]
        obtain ⟨I2, ⟨k', K', T', q1, q2, q3, q4, q5⟩ | ⟨f, p, q1, q2, q3⟩⟩ := m_stm46 X (b := b) (J := J) h hv hR (by omega)
        · obtain ⟨I3, good, w1, w2, w3⟩ := ih (r + 1) k' I2 K' T' (by omega) q3 q4
          rw [q2, zci, zn_add1, w1, q1]
          exact ⟨I3, good, rfl, zfrS_tr q5 w2, w3⟩
        · rw [q2, zci, flt, q1]
          exact ⟨I2, 0, rfl, zMRA_fl q3⟩
theorem m_txt12 : ∀ (m i : Nat) (I : zI), i + m = 1668 → ∃ I', zg_M_text_12 X 181 (Int32.ofNat i) (zM b I J) = zg_M_text_37 X 181 (zM b I' J) ∧ (∀ c, c ≠ 184 → I' c = I c) ∧ ∀ j, I' 184 j = if i ≤ j ∧ j < 1668 then I 182 j else I 184 j := by
  have e16 : (1668 : Int32) = Int32.ofNat 1668 := rfl
  intro m
  induction m with
  | zero =>
    intro i I hi
    refine ⟨I, ?_, fun _ _ => rfl, fun j => by rw [if_neg (by omega)]⟩
    rw [zg_M_text_12_e, e16, if_pos ((zn_le (by omega) (by omega)).mpr (by omega))]
  | succ m ih =>
    intro i I hi
    obtain ⟨I', q1, q2, q3⟩ := ih (i + 1) (zst I 184 i (I 182 i)) (by omega)
    refine ⟨I', ?_, fun c hc => by rw [q2 c hc, zst_ne hc], fun j => ?_⟩
    · rw [zg_M_text_12_e, e16, if_neg (fun q => absurd ((zn_le (by omega) (by omega)).mp q) (by omega)), zo181, zM_P, zp181_2, zrf, zo181, zp181_0, zrf, zx182 (by omega), zx184 (by omega), zM_wI, zM_I, zn_add1, q1]
    · rw [q3 j, zst_ne (show 182 ≠ 184 by decide)]
      by_cases c : j = i
      · rw [if_neg (by omega), c, zst_self, if_pos (by omega)]
      · rw [zst_off c]
        by_cases d : i + 1 ≤ j ∧ j < 1668
        · rw [if_pos d, if_pos (by omega)]
        · rw [if_neg d, if_neg (by omega)]
theorem m_txt108 : ∀ (m i : Nat) (I : zI), i + m = 1668 → ∃ I', zg_M_text_108 X 181 (Int32.ofNat i) (zM b I J) = some (some (.int (-1)), zM b I' J) ∧ (∀ c, c ≠ 182 → I' c = I c) ∧ ∀ j, I' 182 j = if i ≤ j ∧ j < 1668 then I 184 j else I 182 j := by
  have e16 : (1668 : Int32) = Int32.ofNat 1668 := rfl
  intro m
  induction m with
  | zero =>
    intro i I hi
    refine ⟨I, ?_, fun _ _ => rfl, fun j => by rw [if_neg (by omega)]⟩
    rw [zg_M_text_108_e, e16, if_pos ((zn_le (by omega) (by omega)).mpr (by omega)), zg_M_text_133_e]
  | succ m ih =>
    intro i I hi
    obtain ⟨I', q1, q2, q3⟩ := ih (i + 1) (zst I 182 i (I 184 i)) (by omega)
    refine ⟨I', ?_, fun c hc => by rw [q2 c hc, zst_ne hc], fun j => ?_⟩
    · rw [zg_M_text_108_e, e16, if_neg (fun q => absurd ((zn_le (by omega) (by omega)).mp q) (by omega)), zo181, zM_P, zp181_0, zrf, zo181, zp181_2, zrf, zx184 (by omega), zx182 (by omega), zM_wI, zM_I, zn_add1, q1]
    · rw [q3 j, zst_ne (show 184 ≠ 182 by decide)]
      by_cases c : j = i
      · rw [if_neg (by omega), c, zst_self, if_pos (by omega)]
      · rw [zst_off c]
        by_cases d : i + 1 ≤ j ∧ j < 1668
        · rw [if_pos d, if_pos (by omega)]
        · rw [if_neg d, if_neg (by omega)]
theorem m_build2 (h : zMK (I 182) K R) (hr : zKR K R) : ∃ I', zg_M_build_0 X 181 (zM b I J) = some (some (.int (Int32.ofNat K.length)), zM b I' J) ∧ zMK (I' 182) K (K.map (·.1)) ∧ I' 182 10 = I 182 10 + Int32.ofNat K.length ∧ I' 182 11 = 0 ∧ I' 182 12 = 0 ∧ (∀ c, c ≠ 182 → c ≠ 185 → c ≠ 186 → I' c = I c) ∧ ∀ i, (i < 8 ∨ (13 ≤ i ∧ i < 20) ∨ 1220 ≤ i) → I' 182 i = I 182 i := by
  have e : ∀ i, i ≠ 11 → i ≠ 12 → zst (zst I 182 11 0) 182 12 0 182 i = I 182 i := fun i h1 h2 => by rw [zst_off h2, zst_off h1]
  have h' : zMK (zst (zst I 182 11 0) 182 12 0 182) K R := by
    unfold zMK at *
    obtain ⟨c1, c2, c3, c4, c5, c6⟩ := h
    exact ⟨by rw [e 8 (by omega) (by omega)]; exact c1, by rw [e 9 (by omega) (by omega)]; exact c2, fun j u hj => (e (20 + j) (by omega) (by omega)).trans (c3 j u hj), fun j u hj => (e (320 + j) (by omega) (by omega)).trans (c4 j u hj), fun j u hj => (e (620 + j) (by omega) (by omega)).trans (c5 j u hj), fun j u hj => (e (920 + j) (by omega) (by omega)).trans (c6 j u hj)⟩
  obtain ⟨I', q1, q2, q3, q4, q5⟩ := m_builds X (b := b) (J := J) h' hr
  refine ⟨I', ?_, q2, by rw [q3, e 10 (by omega) (by omega)], by rw [q5 11 (by omega), zst_off (by decide), zst_self], by rw [q5 12 (by omega), zst_self], fun c c1 c2 c3 => by rw [q4 c c1 c2 c3, zst_ne c1, zst_ne c1], fun i hi => by rw [q5 i (by omega), e i (by omega) (by omega)]⟩
  rw [zg_M_build_0_e, zo181, m_forgets, zcv, zo181, q1, zci]
/-- the reference is told a text -/
theorem m_text (ht : zTMr I g n) (hk : zMK (I 182) K R) (hv : zKV K) (hR : zRv R) (hT : ∀ j, j < 8 → I 182 j = T j) : ∃ I', (∀ c, (c < 181 ∨ c = 183 ∨ 187 ≤ c) → I' c = I c) ∧ I' 181 7 = 0 ∧ I' 181 3 = I 181 3 ∧ ((∃ K' T', zTxt g n 61 0 K T = .inr (K', T') ∧ zKV K' ∧ zg_M_text_0 X 181 (zM b I J) = some (some (.int (Int32.ofNat K'.length)), zM b I' J) ∧ I' 181 14 = 0 ∧ I' 181 15 = -1 ∧ zMK (I' 182) K' (K'.map (·.1)) ∧ (∀ j, j < 8 → I' 182 j = T' j) ∧ I' 182 10 = I 182 10 + Int32.ofNat K'.length ∧ I' 182 11 = 0 ∧ I' 182 12 = 0 ∧ ∀ i, (13 ≤ i ∧ i < 20) ∨ 1300 ≤ i → I' 182 i = I 182 i) ∨ ∃ f p, zTxt g n 61 0 K T = .inl (f, p) ∧ zg_M_text_0 X 181 (zM b I J) = some (some (.int (-1)), zM b I' J) ∧ I' 181 14 = Int32.ofNat f ∧ I' 181 15 = Int32.ofNat p ∧ ∀ i, i < 1668 → I' 182 i = I 182 i) := by
  obtain ⟨I1, a1, a2, a3⟩ := m_txt12 X (b := b) (J := J) 1668 0 (zst (zst I 181 12 0) 181 8 0) (by decide)
  have t1 : zTMr I1 g n := by
    unfold zTMr at *
    rw [a2 181 (by decide), a2 187 (by decide), zst_off (by decide), zst_off (by decide), zst_ne (by decide), zst_ne (by decide)]
    exact ht
  have w1 : I1 182 = I 182 := by rw [a2 182 (by decide), zst_ne (by decide), zst_ne (by decide)]
  obtain ⟨I2, b1, b2, b3⟩ := m_next0 X (b := b) (J := J) (I := I1) (p := 0) t1 (Nat.zero_le _) (by rw [a2 181 (by decide), zst_self]; rfl)
  have w2 : I2 182 = I 182 := by rw [b3.1 182 (by decide), w1]
  have hP : zPM I2 g n 0 K T R := ⟨zTMr_fr t1 b3, b2, by rw [w2]; exact hk, by rw [w2]; exact hT, by rw [b3.2 12 (by decide) (by decide) (by decide) (by decide), a2 181 (by decide), zst_off (by decide), zst_self]⟩
  obtain ⟨I3, good, c1, c2, c3⟩ := m_tx45 X (b := b) (J := J) hR 60 0 0 I2 K T (by omega) hP hv
  have a1' : zg_M_text_12 X 181 0 (zM b (zst (zst I 181 12 0) 181 8 0) J) = _ := a1
  have c1' : zg_M_text_45 X 181 1 0 (zM b I2 J) = _ := c1
  have st : zg_M_text_0 X 181 (zM b I J) = zg_M_text_68 X 181 good (zM b I3 J) := by
    rw [zg_M_text_0_e, zo181, zM_wI, zo181, zM_wI, a1', zg_M_text_37_e, zo181, b1, zcv, c1']
  have f3 : ∀ c, c ≠ 181 → c ≠ 182 → c ≠ 184 → I3 c = I c := fun c d1 d2 d3 => by rw [c2.1 c d1 d2, b3.1 c d1, a2 c d3, zst_ne d1, zst_ne d1]
  have f181 : ∀ j, j ≠ 8 → j ≠ 9 → j ≠ 10 → j ≠ 11 → j ≠ 12 → j ≠ 13 → j ≠ 16 → I3 181 j = I 181 j := fun j d1 d2 d3 d4 d5 d6 d7 => by rw [c2.2.1 j d1 d2 d3 d4 d5 d6 d7, b3.2 j d1 d2 d3 d4, a2 181 (by decide), zst_off d1, zst_off d5]
  rcases c3 with ⟨K', T', d1, d2, d3, d4, d5, d6⟩ | ⟨f, p, d1, d2, d3, d4, d5, d6⟩
  · subst d2
    generalize hI4 : zst (zst (zst I3 181 7 0) 181 14 0) 181 15 (-1) = I4
    have w4 : I4 182 = I3 182 := by rw [← hI4, zst_ne (by decide), zst_ne (by decide), zst_ne (by decide)]
    obtain ⟨I5, e1, e2, e3, e4, e5, e6, e7⟩ := m_build2 X (b := b) (J := J) (I := I4) (by rw [w4]; exact d3) (zKR_of d4 hR)
    have g181 : I5 181 = I4 181 := e6 181 (by decide) (by decide) (by decide)
    refine ⟨I5, fun c hc => ?_, ?_, ?_, Or.inl ⟨K', T', d1, d4, ?_, ?_, ?_, e2, fun j hj => ?_, ?_, e4, e5, fun i hi => ?_⟩⟩
    · rw [e6 c (by omega) (by omega) (by omega), ← hI4, zst_ne (by omega), zst_ne (by omega), zst_ne (by omega), f3 c (by omega) (by omega) (by omega)]
    · rw [g181, ← hI4, zst_off (by decide), zst_off (by decide), zst_self]
    · rw [g181, ← hI4, zst_off (by decide), zst_off (by decide), zst_off (by decide), f181 3 (by decide) (by decide) (by decide) (by decide) (by decide) (by decide) (by decide)]
    · rw [st, zg_M_text_68_e, zo181, zM_wI, zo181, zo181, zM_I, zst_off (by decide), d6, if_neg (by decide), zM_wI, zg_M_text_94_e, zo181, if_neg (by decide), zM_wI, zo181, hI4, e1, zci]
    · rw [g181, ← hI4, zst_off (by decide), zst_self]
    · rw [g181, ← hI4, zst_self]
    · rw [e7 j (by omega), w4]; exact d5 j hj
    · rw [e3, w4, c2.2.2 10 (by omega), w2]
    · rw [e7 i (by omega), w4, c2.2.2 i (by omega), w2]
  · subst d2
    obtain ⟨I5, e1, e2, e3⟩ := m_txt108 X (b := b) (J := J) 1668 0 (zst (zst (zst I3 181 7 0) 181 14 (Int32.ofNat f)) 181 15 (Int32.ofNat p)) (by decide)
    have e1' : zg_M_text_108 X 181 0 (zM b (zst (zst (zst I3 181 7 0) 181 14 (Int32.ofNat f)) 181 15 (Int32.ofNat p)) J) = _ := e1
    refine ⟨I5, fun c hc => ?_, ?_, ?_, Or.inr ⟨f, p, d1, ?_, ?_, ?_, fun i hi => ?_⟩⟩
    · rw [e2 c (by omega), zst_ne (by omega), zst_ne (by omega), zst_ne (by omega), f3 c (by omega) (by omega) (by omega)]
    · rw [e2 181 (by decide), zst_off (by decide), zst_off (by decide), zst_self]
    · rw [e2 181 (by decide), zst_off (by decide), zst_off (by decide), zst_off (by decide), f181 3 (by decide) (by decide) (by decide) (by decide) (by decide) (by decide) (by decide)]
    · rw [st, zg_M_text_68_e, zo181, zM_wI, zo181, zo181, zM_I, zst_off (by decide), d5, if_pos rfl, zM_wI, zg_M_text_90_e, zo181, zM_I, zst_off (by decide), zst_off (by decide), d6, zg_M_text_94_e, zo181, if_pos rfl, zM_wI, zg_M_text_106_e, e1']
    · rw [e2 181 (by decide), zst_off (by decide), zst_self]
    · rw [e2 181 (by decide), zst_self]
    · rw [e3 i, if_pos ⟨Nat.zero_le _, hi⟩, zst_ne (by decide), zst_ne (by decide), zst_ne (by decide), c2.1 184 (by decide) (by decide), b3.1 184 (by decide), a3 i, if_pos ⟨Nat.zero_le _, hi⟩, zst_ne (by decide), zst_ne (by decide)]
end ZTS
