/-! the reference reads its next token -/
def zTMr (I : zI) (g : Nat → Nat) (n : Nat) : Prop := n ≤ 600 ∧ I 181 7 = Int32.ofNat n ∧ ∀ i, i < n → I 187 i = Int32.ofNat (g i) ∧ g i < 256
def zfrN (I I' : zI) : Prop := (∀ c, c ≠ 181 → I' c = I c) ∧ ∀ j, j ≠ 8 → j ≠ 9 → j ≠ 10 → j ≠ 11 → I' 181 j = I 181 j
theorem zfrN_refl (I : zI) : zfrN I I := ⟨fun _ _ => rfl, fun _ _ _ _ _ => rfl⟩
theorem zfrN_tr {I I' I'' : zI} (h : zfrN I I') (h' : zfrN I' I'') : zfrN I I'' := ⟨fun c hc => (h'.1 c hc).trans (h.1 c hc), fun j h1 h2 h3 h4 => (h'.2 j h1 h2 h3 h4).trans (h.2 j h1 h2 h3 h4)⟩
theorem zfrN_st {I : zI} {j : Nat} {v : Int32} (hj : j = 8 ∨ j = 9 ∨ j = 10 ∨ j = 11) : zfrN I (zst I 181 j v) := ⟨fun c hc => zst_ne hc, fun k h1 h2 h3 h4 => zst_off (by omega)⟩
theorem zTMr_fr {I I' : zI} {g : Nat → Nat} {n : Nat} (h : zTMr I g n) (f : zfrN I I') : zTMr I' g n := by
  unfold zTMr at *
  rw [f.1 187 (by decide), f.2 7 (by decide) (by decide) (by decide) (by decide)]
  exact h
def zse (g : Nat → Nat) (n i : Nat) : Int32 := if i < n then Int32.ofNat (g i) else -1
section ZTN
variable (X : zv_X) {b : Bool} {I : zI} {J : zJ} {g : Nat → Nat} {n : Nat}
theorem m_see (h : zTMr I g n) {i : Nat} (hi : i < 2 ^ 31) : zg_M_see_0 X 181 (Int32.ofNat i) (zM b I J) = some (some (.int (zse g n i)), zM b I J) := by
  have h6 := h.1
  unfold zse
  by_cases c : i < n
  · rw [zg_M_see_0_e, zo181, zM_I, h.2.1, if_neg (fun q => absurd ((zn_le (by omega) (by omega)).mp q) (by omega)), zo181, zM_P, zp181_6, zrf, zx187 (by omega), zg_M_see_18_e, (h.2.2 i c).1, if_pos c]
  · rw [zg_M_see_0_e, zo181, zM_I, h.2.1, if_pos ((zn_le (by omega) (by omega)).mpr (by omega)), zg_M_see_17_e, zg_M_see_18_e, if_neg c]
theorem zse_eq (h : zTMr I g n) {i L : Nat} (hL : L < 2 ^ 31) : zse g n i = Int32.ofNat L ↔ (i < n ∧ g i = L) := by
  have m1 : (-1 : Int32).toInt = -1 := rfl
  unfold zse
  by_cases c : i < n
  · have := (h.2.2 i c).2
    rw [if_pos c, zn_eq (by omega) hL]
    exact ⟨fun q => ⟨c, q⟩, fun q => q.2⟩
  · rw [if_neg c, zi_eq, m1, zn_int hL]
    constructor
    · intro q; omega
    · exact fun q => absurd q.1 c
theorem zse_in (h : zTMr I g n) {i L H : Nat} (hL : L < 2 ^ 31) (hH : H < 2 ^ 31) : (zse g n i < Int32.ofNat L ∨ Int32.ofNat H < zse g n i) ↔ ¬ (i < n ∧ L ≤ g i ∧ g i ≤ H) := by
  have m1 : (-1 : Int32).toInt = -1 := rfl
  unfold zse
  by_cases c : i < n
  · have := (h.2.2 i c).2
    rw [if_pos c, zn_lt (by omega) hL, zn_lt hH (by omega)]
    omega
  · rw [if_neg c, zi_lt, zi_lt, m1, zn_int hL, zn_int hH]
    omega
theorem m_isDigit (h : zTMr I g n) {i : Nat} (M : zv_M) : zg_M_isDigit_0 X (zse g n i) M = some (some (.int (if i < n ∧ zdg (g i) = true then 1 else 0)), M) := by
  have e48 : (48 : Int32) = Int32.ofNat 48 := rfl
  have e57 : (57 : Int32) = Int32.ofNat 57 := rfl
  have hq := zse_in h (i := i) (L := 48) (H := 57) (by decide) (by decide)
  rw [zg_M_isDigit_0_e, m_isIn, zci, e48, e57]
  by_cases c : i < n ∧ zdg (g i) = true
  · rw [if_pos c, if_neg (fun q => hq.mp q ⟨c.1, zdg_iff.mp c.2⟩), zrb1]
  · rw [if_neg c, if_pos (hq.mpr (fun q => c ⟨q.1, zdg_iff.mpr q.2⟩)), zrb0]
theorem m_isLetter (h : zTMr I g n) {i : Nat} (M : zv_M) : zg_M_isLetter_0 X (zse g n i) M = some (some (.int (if i < n ∧ zle (g i) = true then 1 else 0)), M) := by
  have e97 : (97 : Int32) = Int32.ofNat 97 := rfl
  have e122 : (122 : Int32) = Int32.ofNat 122 := rfl
  have e65 : (65 : Int32) = Int32.ofNat 65 := rfl
  have e90 : (90 : Int32) = Int32.ofNat 90 := rfl
  have hq := zse_in h (i := i) (L := 97) (H := 122) (by decide) (by decide)
  have hq2 := zse_in h (i := i) (L := 65) (H := 90) (by decide) (by decide)
  rw [zg_M_isLetter_0_e, m_isIn, zci, m_isIn, zci, zif01, zif01, zg_M_isLetter_22_e, zg_M_isLetter_26_e, zg_M_isLetter_27_e, zg_M_isLetter_27_e, zrb0, zrb1, e97, e122, e65, e90]
  by_cases c : i < n ∧ zle (g i) = true
  · rw [if_pos c]
    rcases zle_iff.mp c.2 with d | d
    · rw [if_neg (fun q => hq.mp q ⟨c.1, d⟩)]
    · rw [if_neg (fun q => hq2.mp q ⟨c.1, d⟩)]
      split <;> rfl
  · rw [if_neg c, if_pos (hq.mpr (fun q => c ⟨q.1, zle_iff.mpr (Or.inl q.2)⟩)), if_pos (hq2.mpr (fun q => c ⟨q.1, zle_iff.mpr (Or.inr q.2)⟩))]
theorem m_is24 (h : zTMr I g n) {a w : Nat} (hw : w < 6) (ha : a + (zwd.getD w []).length ≤ n) (h10 : I 181 10 = Int32.ofNat a) : ∀ m i, i + m = (zwd.getD w []).length → zg_M_is_24 X 181 (20 + w) 1 (Int32.ofNat i) (zM b I J) = some (some (.int (if ∀ k, k < (zwd.getD w []).length → i ≤ k → g (a + k) = (zwd.getD w []).getD k 0 then 1 else 0)), zM b I J) := by
  have hl := zwd_len w hw
  have h6 := h.1
  have c1 : ¬ (20 + w = 90) := by omega
  have c2 : 20 ≤ 20 + w ∧ 20 + w < 27 ∧ 22 = 22 := ⟨by omega, by omega, rfl⟩
  have stop : ∀ i, i ≤ 5 → zg_M_is_24 X 181 (20 + w) 0 (Int32.ofNat i) (zM b I J) = some (some (.int 0), zM b I J) := fun i hi => by
    rw [zg_M_is_24_e, if_neg c1, if_pos c2, s_len X w hw, zci, if_pos rfl, zg_M_is_67_e, zrb0]
    split <;> rfl
  intro m
  induction m with
  | zero =>
    intro i hi
    rw [zg_M_is_24_e, if_neg c1, if_pos c2, s_len X w hw, zci, if_pos ((zn_le (by omega) (by omega)).mpr (by omega)), zg_M_is_67_e, zrb1, if_pos]
    intro k k2 k1; omega
  | succ m ih =>
    intro i hi
    have hb := zwd_lt w i hw (by omega)
    have hc := h.2.2 (a + i) (by omega)
    rw [zg_M_is_24_e, if_neg c1, if_pos c2, s_len X w hw, zci, if_neg (fun q => absurd ((zn_le (by omega) (by omega)).mp q) (by omega)), if_neg (by decide), zo181, zM_P, zp181_6, zrf, zo181, zM_I, h10, zn_add, zx187 (by omega), if_neg c1, if_pos c2, s_char X w i hw (by omega), zci, hc.1, zg_M_is_60_e, zg_M_is_59_e, zg_M_is_60_e, zn_add1, ih (i + 1) (by omega), stop _ (by omega)]
    by_cases c : g (a + i) = (zwd.getD w []).getD i 0
    · rw [if_pos (by rw [c])]
      congr 3
      refine congrArg Value.int (zifc ?_)
      constructor
      · intro q k k2 k1
        rcases Nat.lt_or_ge i k with d | d
        · exact q k k2 d
        · have : k = i := by omega
          rw [this]; exact c
      · exact fun q k k2 k1 => q k k2 (by omega)
    · rw [if_neg (fun q => c ((zn_eq (by omega) (by omega)).mp q)), if_neg (fun q => c (q i (by omega) (Nat.le_refl _)))]
theorem m_is (h : zTMr I g n) {a z w : Nat} (hw : w < 6) (haz : a ≤ z) (hz : z ≤ n) (h8 : I 181 8 = Int32.ofNat z) (h10 : I 181 10 = Int32.ofNat a) : zg_M_is_0 X 181 (20 + w) (zM b I J) = some (some (.int (if zis g a z (zwd.getD w []) then 1 else 0)), zM b I J) := by
  have hl := zwd_len w hw
  have h6 := h.1
  have c1 : ¬ (20 + w = 90) := by omega
  have c2 : 20 ≤ 20 + w ∧ 20 + w < 27 ∧ 22 = 22 := ⟨by omega, by omega, rfl⟩
  rw [zg_M_is_0_e, zo181, zo181, if_neg c1, if_pos c2, s_len X w hw, zci, zM_I, h8, h10, zn_sub haz]
  by_cases c : z - a = (zwd.getD w []).length
  · have := m_is24 X (b := b) (J := J) h hw (show a + (zwd.getD w []).length ≤ n by omega) h10 _ 0 (Nat.zero_add _)
    have this' : zg_M_is_24 X 181 (20 + w) 1 0 (zM b I J) = _ := this
    rw [if_pos (by rw [c]), zg_M_is_21_e, this']
    congr 3
    refine congrArg Value.int (zifc ?_)
    constructor
    · exact fun q => ⟨c, fun k hk => q k hk (Nat.zero_le _)⟩
    · exact fun q k hk _ => q.2 k hk
  · have e0 : (0 : Int32) = Int32.ofNat 0 := rfl
    rw [if_neg (fun q => c ((zn_eq (by omega) (by omega)).mp q)), if_neg (fun q => c q.1), zg_M_is_20_e, zg_M_is_21_e, zg_M_is_24_e, if_neg c1, if_pos c2, s_len X w hw, zci, if_pos rfl, zg_M_is_67_e, zrb0]
    split <;> rfl
theorem m_word (h : zTMr I g n) {a z : Nat} (haz : a ≤ z) (hz : z ≤ n) (h8 : I 181 8 = Int32.ofNat z) (h10 : I 181 10 = Int32.ofNat a) : zg_M_word_0 X 181 (zM b I J) = some (some (.int (Int32.ofNat (zwl g a z 6))), zM b I J) := by
  have is : ∀ w, w < 6 → zg_M_is_0 X 181 (20 + w) (zM b I J) = some (some (.int (if zis g a z (zwd.getD w []) then 1 else 0)), zM b I J) := fun w hw => m_is X h hw haz hz h8 h10
  have i0 : zg_M_is_0 X 181 20 (zM b I J) = _ := is 0 (by decide)
  have i1 : zg_M_is_0 X 181 21 (zM b I J) = _ := is 1 (by decide)
  have i2 : zg_M_is_0 X 181 22 (zM b I J) = _ := is 2 (by decide)
  have i3 : zg_M_is_0 X 181 23 (zM b I J) = _ := is 3 (by decide)
  have i4 : zg_M_is_0 X 181 24 (zM b I J) = _ := is 4 (by decide)
  have i5 : zg_M_is_0 X 181 25 (zM b I J) = _ := is 5 (by decide)
  rw [zg_M_word_0_e, zo181, i0, zci, zif10, zg_M_word_11_e, zo181, i1, zci, zif10, zg_M_word_22_e, zo181, i2, zci, zif10, zg_M_word_34_e, zo181, i3, zci, zif10, zg_M_word_46_e, zo181, i4, zci, zif10, zg_M_word_58_e, zo181, i5, zci, zif10, zg_M_word_72_e, zg_M_word_73_e, zg_M_word_73_e]
  by_cases c0 : zis g a z (zwd.getD 0 [])
  · rw [if_pos c0, zwl_at (by decide) c0]; rfl
  rw [if_neg c0]
  by_cases c1 : zis g a z (zwd.getD 1 [])
  · rw [if_pos c1, zwl_at (by decide) c1]; rfl
  rw [if_neg c1]
  by_cases c2 : zis g a z (zwd.getD 2 [])
  · rw [if_pos c2, zwl_at (by decide) c2]; rfl
  rw [if_neg c2]
  by_cases c3 : zis g a z (zwd.getD 3 [])
  · rw [if_pos c3, zwl_at (by decide) c3]; rfl
  rw [if_neg c3]
  by_cases c4 : zis g a z (zwd.getD 4 [])
  · rw [if_pos c4, zwl_at (by decide) c4]; rfl
  rw [if_neg c4]
  by_cases c5 : zis g a z (zwd.getD 5 [])
  · rw [if_pos c5, zwl_at (by decide) c5]; rfl
  rw [if_neg c5, zwl_no 6 (fun k hk => by
    have : k = 0 ∨ k = 1 ∨ k = 2 ∨ k = 3 ∨ k = 4 ∨ k = 5 := by omega
    rcases this with rfl | rfl | rfl | rfl | rfl | rfl <;> assumption)]
  rfl
/-- the token at place a as the reference keeps it -/
def zMt (I : zI) (g : Nat → Nat) (n a : Nat) : Prop := I 181 9 = Int32.ofNat (zkd g n a) ∧ I 181 10 = Int32.ofNat a ∧ I 181 8 = Int32.ofNat (zbh g n a) ∧ (zkd g n a = 2 → I 181 11 = zvl g n a)
theorem m_skip : ∀ (m a : Nat) (I : zI), a + m = n → zTMr I g n → I 181 8 = Int32.ofNat a → ∃ I', zg_M_next0_0 X 181 (zM b I J) = zg_M_next0_39 X 181 (zM b I' J) ∧ I' 181 8 = Int32.ofNat (zre zbl g n a) ∧ zfrN I I' := by
  have e32 : (32 : Int32) = Int32.ofNat 32 := rfl
  have e10 : (10 : Int32) = Int32.ofNat 10 := rfl
  intro m
  induction m with
  | zero =>
    intro a I ha h h8
    have h6 := h.1
    refine ⟨I, ?_, by rw [zre_n (by omega)]; exact h8, zfrN_refl I⟩
    rw [zg_M_next0_0_e, zo181, zo181, zM_I, h8, m_see X h (by omega), zci, zo181, zo181, zM_I, h8, m_see X h (by omega), zci, e32, e10, if_neg (fun q => absurd ((zse_eq h (by decide)).mp q).1 (by omega)), if_neg (fun q => absurd ((zse_eq h (by decide)).mp q).1 (by omega))]
  | succ m ih =>
    intro a I ha h h8
    have h6 := h.1
    have st : zg_M_next0_0 X 181 (zM b I J) = if zbl (g a) = true then zg_M_next0_0 X 181 (zM b (zst I 181 8 (Int32.ofNat (a + 1))) J) else zg_M_next0_39 X 181 (zM b I J) := by
      conv => lhs; rw [zg_M_next0_0_e, zo181, zo181, zM_I, h8, m_see X h (by omega), zci, zo181, zo181, zM_I, h8, m_see X h (by omega), zci, e32, e10, zg_M_next0_26_e, zo181, zo181, zM_wI, zM_I, h8, zn_add1]
      by_cases d1 : g a = 32
      · rw [if_pos ((zse_eq h (by decide)).mpr ⟨by omega, d1⟩), if_pos (zbl_iff.mpr (Or.inl d1))]
      · rw [if_neg (fun q => d1 ((zse_eq h (by decide)).mp q).2)]
        by_cases d2 : g a = 10
        · rw [if_pos ((zse_eq h (by decide)).mpr ⟨by omega, d2⟩), if_pos (zbl_iff.mpr (Or.inr d2))]
        · rw [if_neg (fun q => d2 ((zse_eq h (by decide)).mp q).2), if_neg (fun q => (zbl_iff.mp q).elim d1 d2)]
    rw [st]
    by_cases c : zbl (g a) = true
    · obtain ⟨I', q1, q2, q3⟩ := ih (a + 1) (zst I 181 8 (Int32.ofNat (a + 1))) (by omega) (zTMr_fr h (zfrN_st (Or.inl rfl))) zst_self
      rw [if_pos c]
      exact ⟨I', q1, by rw [zre_y (by omega) c]; exact q2, zfrN_tr (zfrN_st (Or.inl rfl)) q3⟩
    · rw [if_neg c]
      exact ⟨I, rfl, by rw [zre_n (fun q => c q.2)]; exact h8, zfrN_refl I⟩
theorem m_letters : ∀ (m a : Nat) (I : zI), a + m = n → zTMr I g n → I 181 8 = Int32.ofNat a → ∃ I', zg_M_next0_76 X 181 (zM b I J) = zg_M_next0_103 X 181 (zM b I' J) ∧ I' 181 8 = Int32.ofNat (zre zle g n a) ∧ (∀ j, j ≠ 8 → I' 181 j = I 181 j) ∧ zfrN I I' := by
  intro m
  induction m with
  | zero =>
    intro a I ha h h8
    have h6 := h.1
    refine ⟨I, ?_, by rw [zre_n (by omega)]; exact h8, fun _ _ => rfl, zfrN_refl I⟩
    rw [zg_M_next0_76_e, zo181, zo181, zM_I, h8, m_see X h (by omega), zci, m_isLetter X h, zci, zif10, if_neg (fun q => absurd q.1 (by omega))]
  | succ m ih =>
    intro a I ha h h8
    have h6 := h.1
    by_cases c : zle (g a) = true
    · obtain ⟨I', q1, q2, q3, q4⟩ := ih (a + 1) (zst I 181 8 (Int32.ofNat (a + 1))) (by omega) (zTMr_fr h (zfrN_st (Or.inl rfl))) zst_self
      refine ⟨I', ?_, by rw [zre_y (by omega) c]; exact q2, fun j hj => by rw [q3 j hj, zst_off hj], zfrN_tr (zfrN_st (Or.inl rfl)) q4⟩
      rw [zg_M_next0_76_e, zo181, zo181, zM_I, h8, m_see X h (by omega), zci, m_isLetter X h, zci, zif10, if_pos ⟨by omega, c⟩, zo181, zo181, zM_wI, zM_I, h8, zn_add1, q1]
    · refine ⟨I, ?_, by rw [zre_n (fun q => c q.2)]; exact h8, fun _ _ => rfl, zfrN_refl I⟩
      rw [zg_M_next0_76_e, zo181, zo181, zM_I, h8, m_see X h (by omega), zci, m_isLetter X h, zci, zif10, if_neg (fun q => c q.2)]
theorem m_digits {s : Nat} {l2 : Int32} (hs : s ≤ n) : ∀ (m z : Nat) (I : zI), z + m = n → s ≤ z → zTMr I g n → I 181 8 = Int32.ofNat z → I 181 11 = Int32.ofNat (zdv g s (min 9 (z - s))) → ∃ I', zg_M_next0_179 X 181 l2 (Int32.ofNat s) (zM b I J) = zg_M_next0_240 X 181 l2 (Int32.ofNat s) (zM b I' J) ∧ I' 181 8 = Int32.ofNat (zre zdg g n z) ∧ I' 181 11 = Int32.ofNat (zdv g s (min 9 (zre zdg g n z - s))) ∧ I' 181 10 = I 181 10 ∧ zfrN I I' := by
  intro m
  induction m with
  | zero =>
    intro z I hz hsz h h8 h11
    have h6 := h.1
    refine ⟨I, ?_, by rw [zre_n (by omega)]; exact h8, by rw [zre_n (by omega)]; exact h11, rfl, zfrN_refl I⟩
    rw [zg_M_next0_179_e, zo181, zo181, zM_I, h8, m_see X h (by omega), zci, m_isDigit X h, zci, zif10, if_neg (fun q => absurd q.1 (by omega))]
  | succ m ih =>
    intro z I hz hsz h h8 h11
    have h6 := h.1
    by_cases c : zdg (g z) = true
    · have hdg := zdg_iff.mp c
      have e9 : (9 : Int32) = Int32.ofNat 9 := rfl
      have e10 : (10 : Int32) = Int32.ofNat 10 := rfl
      have e48 : (48 : Int32) = Int32.ofNat 48 := rfl
      have hse : zse g n z = Int32.ofNat (g z) := (zse_eq h (by omega)).mpr ⟨by omega, rfl⟩
      by_cases d : s + 9 ≤ z
      · obtain ⟨I', q1, q2, q3, q4, q5⟩ := ih (z + 1) (zst I 181 8 (Int32.ofNat (z + 1))) (by omega) (by omega) (zTMr_fr h (zfrN_st (Or.inl rfl))) zst_self (by rw [zst_off (by decide), h11, show min 9 (z + 1 - s) = min 9 (z - s) by omega])
        refine ⟨I', ?_, by rw [zre_y (by omega) c]; exact q2, by rw [zre_y (by omega) c]; exact q3, by rw [q4, zst_off (by decide)], zfrN_tr (zfrN_st (Or.inl rfl)) q5⟩
        rw [zg_M_next0_179_e, zo181, zo181, zM_I, h8, m_see X h (by omega), zci, m_isDigit X h, zci, zif10, if_pos ⟨by omega, c⟩, zo181, zM_I, h8, e9, zn_add, if_pos ((zn_le (by omega) (by omega)).mpr d), zg_M_next0_227_e, zo181, zo181, zM_wI, zM_I, h8, zn_add1, q1]
      · have ev : (10 * Int32.ofNat (zdv g s (min 9 (z - s))) + Int32.ofNat (g z)) - 48 = Int32.ofNat (zdv g s (min 9 (z + 1 - s))) := by
          rw [e10, zn_mul, zn_add, e48, zn_sub (by omega)]
          congr 1
          rw [show min 9 (z + 1 - s) = (z - s) + 1 by omega, show min 9 (z - s) = z - s by omega, zdv, show s + (z - s) = z by omega]
          omega
        obtain ⟨I', q1, q2, q3, q4, q5⟩ := ih (z + 1) (zst (zst I 181 11 (Int32.ofNat (zdv g s (min 9 (z + 1 - s))))) 181 8 (Int32.ofNat (z + 1))) (by omega) (by omega) (zTMr_fr h (zfrN_tr (zfrN_st (Or.inr (Or.inr (Or.inr rfl)))) (zfrN_st (Or.inl rfl)))) zst_self (by rw [zst_off (by decide), zst_self])
        refine ⟨I', ?_, by rw [zre_y (by omega) c]; exact q2, by rw [zre_y (by omega) c]; exact q3, by rw [q4, zst_off (by decide), zst_off (by decide)], zfrN_tr (zfrN_tr (zfrN_st (Or.inr (Or.inr (Or.inr rfl)))) (zfrN_st (Or.inl rfl))) q5⟩
        rw [zg_M_next0_179_e, zo181, zo181, zM_I, h8, m_see X h (by omega), zci, m_isDigit X h, zci, zif10, if_pos ⟨by omega, c⟩, zo181, zM_I, h8, e9, zn_add, if_neg (fun q => d ((zn_le (by omega) (by omega)).mp q)), zo181, zo181, zo181, m_see X h (by omega), zci, zo181, hse, h11, ev, zM_wI, zg_M_next0_227_e, zo181, zo181, zM_wI, zM_I, zst_off (by decide), h8, zn_add1, q1]
    · refine ⟨I, ?_, by rw [zre_n (fun q => c q.2)]; exact h8, by rw [zre_n (fun q => c q.2)]; exact h11, rfl, zfrN_refl I⟩
      rw [zg_M_next0_179_e, zo181, zo181, zM_I, h8, m_see X h (by omega), zci, m_isDigit X h, zci, zif10, if_neg (fun q => c q.2)]
theorem m_num143 (h : zTMr I g n) {a : Nat} (ha : a < n) (hd : zdg (g (zst0 g a)) = true) (hsn : zst0 g a < n) (hk : zle (g a) = false) (h8 : I 181 8 = Int32.ofNat a) (h10 : I 181 10 = Int32.ofNat a) (hc : zdg (g a) = true ∨ g a = 45) : ∃ I', zg_M_next0_143 X 181 (Int32.ofNat (g a)) (zM b I J) = some (none, zM b I' J) ∧ zMt I' g n a ∧ zfrN I I' := by
  have h6 := h.1
  have hg := (h.2.2 a ha).2
  have e45 : (45 : Int32) = Int32.ofNat 45 := rfl
  have hs := zst0_bd (g := g) ha
  have hre := zre_bd (p := zdg) (g := g) (n := n) (a := zst0 g a + 1) (by omega)
  have hry := zre_y (p := zdg) (g := g) hsn hd
  have ek : zkd g n a = if 1 ≤ zre zdg g n (zst0 g a) - zst0 g a ∧ zre zdg g n (zst0 g a) - zst0 g a ≤ 9 then 2 else 1 := by
    unfold zkd
    rw [if_neg (by omega), if_neg (by rw [hk]; decide), if_pos hc]
  have eb : zbh g n a = zre zdg g n (zst0 g a) := by
    unfold zbh
    rw [if_neg (by omega), if_neg (by rw [hk]; decide), if_pos hc]
  have st : ∃ (I1 : zI) (l2 : Int32), zg_M_next0_143 X 181 (Int32.ofNat (g a)) (zM b I J) = zg_M_next0_179 X 181 l2 (Int32.ofNat (zst0 g a)) (zM b (zst I1 181 11 0) J) ∧ I1 181 8 = Int32.ofNat (zst0 g a) ∧ I1 181 10 = Int32.ofNat a ∧ zfrN I I1 ∧ (g a = 45 → l2 = 1) ∧ (¬ g a = 45 → l2 = 0) := by
    unfold zst0
    by_cases c : g a = 45
    · refine ⟨zst I 181 8 (Int32.ofNat (a + 1)), 1, ?_, by rw [if_pos c, zst_self], by rw [zst_off (by decide)]; exact h10, zfrN_st (Or.inl rfl), fun _ => rfl, fun q => absurd c q⟩
      rw [zg_M_next0_143_e, e45, if_pos (by rw [c]), zg_M_next0_154_e, if_neg (by decide), zo181, zo181, zM_wI, zM_I, h8, zn_add1, zg_M_next0_169_e, zo181, zo181, zM_wI, zM_I, zst_self, if_pos c]
    · refine ⟨I, 0, ?_, by rw [if_neg c]; exact h8, h10, zfrN_refl I, fun q => absurd q c, fun _ => rfl⟩
      rw [zg_M_next0_143_e, e45, if_neg (fun q => c ((zn_eq (by omega) (by decide)).mp q)), zg_M_next0_153_e, zg_M_next0_154_e, if_pos rfl, zg_M_next0_169_e, zo181, zo181, zM_wI, zM_I, h8, if_neg c]
  obtain ⟨I1, l2, s1, s2, s3, s4, s5, s6⟩ := st
  have f1 : zfrN I (zst I1 181 11 0) := zfrN_tr s4 (zfrN_st (Or.inr (Or.inr (Or.inr rfl))))
  obtain ⟨I2, q1, q2, q3, q4, q5⟩ := m_digits X (b := b) (J := J) (g := g) (n := n) (s := zst0 g a) (l2 := l2) hs.2 (n - zst0 g a) (zst0 g a) (zst I1 181 11 0) (by omega) (Nat.le_refl _) (zTMr_fr h f1) (by rw [zst_off (by decide)]; exact s2) (by rw [zst_self, Nat.sub_self]; rfl)
  rw [zst_off (by decide), s3] at q4
  have f2 := zfrN_tr f1 q5
  -- the value
  have hv : ∃ v : Int32, zg_M_next0_240 X 181 l2 (Int32.ofNat (zst0 g a)) (zM b I2 J) = zg_M_next0_257 X 181 (Int32.ofNat (zst0 g a)) v 181 (zM b I2 J) ∧ v = zvl g n a := by
    unfold zvl
    by_cases c : g a = 45
    · refine ⟨_, ?_, by rw [if_pos c]⟩
      rw [zg_M_next0_240_e, s5 c, if_neg (by decide), zo181, zM_I, q3]
    · refine ⟨_, ?_, by rw [if_neg c]⟩
      rw [zg_M_next0_240_e, s6 c, if_pos rfl, zg_M_next0_253_e, zo181, zM_I, q3]
  obtain ⟨v, v1, v2⟩ := hv
  have e10 : (10 : Int32) = Int32.ofNat 10 := rfl
  have hfin : zg_M_next0_257 X 181 (Int32.ofNat (zst0 g a)) v 181 (zM b I2 J) = some (none, zM b (zst (zst I2 181 11 v) 181 9 (Int32.ofNat (zkd g n a))) J) := by
    rw [zg_M_next0_257_e, zo181, zM_wI, zo181, zM_I, zst_off (by decide), q2, zn_sub (by omega), zg_M_next0_276_e, zg_M_next0_277_e, zg_M_next0_277_e, zo181, zo181, zM_wI, zM_wI, zg_M_next0_308_e, zg_M_next0_308_e, e10, ek]
    by_cases c : 10 ≤ zre zdg g n (zst0 g a) - zst0 g a
    · rw [if_pos ((zn_le (by omega) (by omega)).mpr c), if_neg (by omega)]
      rfl
    · rw [if_neg (fun q => c ((zn_le (by omega) (by omega)).mp q)), if_pos ⟨by omega, by omega⟩]
      rfl
  refine ⟨_, by rw [s1, q1, v1, hfin], ⟨by rw [zst_self], by rw [zst_off (by decide), zst_off (by decide)]; exact q4, by rw [zst_off (by decide), zst_off (by decide), eb]; exact q2, fun _ => by rw [zst_off (by decide), zst_self, v2]⟩, zfrN_tr f2 (zfrN_tr (zfrN_st (Or.inr (Or.inr (Or.inr rfl)))) (zfrN_st (Or.inr (Or.inl rfl))))⟩
theorem m_next0 (h : zTMr I g n) {p : Nat} (hp : p ≤ n) (h8 : I 181 8 = Int32.ofNat p) : ∃ I', zg_M_next0_0 X 181 (zM b I J) = some (none, zM b I' J) ∧ zMt I' g n (zre zbl g n p) ∧ zfrN I I' := by
  have h6 := h.1
  obtain ⟨I0, a1, a2, a3⟩ := m_skip X (b := b) (J := J) (g := g) (n := n) (n - p) p I (by omega) h h8
  have hb := zre_bd (p := zbl) (g := g) hp
  generalize zre zbl g n p = a at *
  have f1 : zfrN I (zst I0 181 10 (Int32.ofNat a)) := zfrN_tr a3 (zfrN_st (Or.inr (Or.inr (Or.inl rfl))))
  have h1 := zTMr_fr h f1
  have e8 : zst I0 181 10 (Int32.ofNat a) 181 8 = Int32.ofNat a := by rw [zst_off (by decide)]; exact a2
  have e10 : zst I0 181 10 (Int32.ofNat a) 181 10 = Int32.ofNat a := zst_self
  have st : zg_M_next0_0 X 181 (zM b I J) = if n ≤ a then some (none, zM b (zst (zst I0 181 10 (Int32.ofNat a)) 181 9 0) J) else zg_M_next0_69 X 181 (Int32.ofNat (g a)) (zM b (zst I0 181 10 (Int32.ofNat a)) J) := by
    rw [a1, zg_M_next0_39_e, zo181, zo181, zM_wI, zM_I, a2, zo181, zo181, zM_I, e8, m_see X h1 (by omega), zci, zo181, zM_wI, zg_M_next0_308_e]
    by_cases c : n ≤ a
    · rw [if_pos c, if_pos (by unfold zse; rw [if_neg (by omega)])]
    · have := (h.2.2 a (by omega)).2
      rw [if_neg c, if_neg]
      · unfold zse
        rw [if_pos (by omega)]
      · unfold zse
        rw [if_pos (by omega), zi_eq, zn_int (by omega)]
        have m1 : (-1 : Int32).toInt = -1 := rfl
        rw [m1]; omega
  generalize zst I0 181 10 (Int32.ofNat a) = I1 at *
  by_cases c : n ≤ a
  · have ea : a = n := by omega
    rw [st, if_pos c]
    refine ⟨_, rfl, ⟨by rw [zst_self, zkd_0.mpr c]; rfl, by rw [zst_off (by decide)]; exact e10, ?_, fun q => by rw [zkd_0.mpr c] at q; omega⟩, zfrN_tr f1 (zfrN_st (Or.inr (Or.inl rfl)))⟩
    rw [zst_off (by decide), e8]
    unfold zbh
    rw [if_pos c]
  · have han : a < n := by omega
    have hse : zse g n a = Int32.ofNat (g a) := (zse_eq h1 (by have := (h.2.2 a han).2; omega)).mpr ⟨han, rfl⟩
    have hgl := (h.2.2 a han).2
    rw [st, if_neg c]
    by_cases c1 : zle (g a) = true
    · obtain ⟨I2, q1, q2, q3, q4⟩ := m_letters X (b := b) (J := J) (g := g) (n := n) (n - a) a I1 (by omega) h1 e8
      have hbl := zre_bd (p := zle) (g := g) (n := n) (a := a) (by omega)
      have hw := m_word X (b := b) (J := J) (zTMr_fr h1 q4) hbl.1 hbl.2 q2 ((q3 10 (by decide)).trans e10)
      have ek : zkd g n a = zwl g a (zre zle g n a) 6 := by unfold zkd; rw [if_neg c, if_pos c1]
      have eb : zbh g n a = zre zle g n a := by unfold zbh; rw [if_neg c, if_pos c1]
      have hr := zwl_rng (g := g) a (zre zle g n a) 6
      refine ⟨_, ?_, ⟨zst_self, by rw [zst_off (by decide), q3 10 (by decide)]; exact e10, by rw [zst_off (by decide), eb]; exact q2, fun q => by rw [ek] at q; omega⟩, zfrN_tr (zfrN_tr f1 q4) (zfrN_st (Or.inr (Or.inl rfl)))⟩
      rw [← hse, zg_M_next0_69_e, m_isLetter X h1, zci, zif10, if_pos ⟨han, c1⟩, q1, zg_M_next0_103_e, zo181, hw, zci, zo181, zM_wI, zg_M_next0_308_e, ek]
    · have c1' : zle (g a) = false := by simpa using c1
      have e45 : (45 : Int32) = Int32.ofNat 45 := rfl
      have e59 : (59 : Int32) = Int32.ofNat 59 := rfl
      have stp : zg_M_next0_69 X 181 (Int32.ofNat (g a)) (zM b I1 J) = if zdg (g a) = true ∨ (g a = 45 ∧ a + 1 < n ∧ zdg (g (a + 1)) = true) then zg_M_next0_143 X 181 (Int32.ofNat (g a)) (zM b I1 J) else zg_M_next0_283 X 181 (Int32.ofNat (g a)) (zM b I1 J) := by
        conv => lhs; rw [← hse, zg_M_next0_69_e, m_isLetter X h1, zci, zif10, if_neg (fun q => c1 q.2), zg_M_next0_114_e, m_isDigit X h1, zci, zif10, zo181, zo181, zM_I, e8, zn_add1, m_see X h1 (by omega), zci, m_isDigit X h1, zci, zif10, hse, e45]
        by_cases d1 : zdg (g a) = true
        · rw [if_pos ⟨han, d1⟩, if_pos (Or.inl d1)]
        · rw [if_neg (fun q => d1 q.2)]
          by_cases d2 : g a = 45
          · rw [if_pos (by rw [d2])]
            by_cases d3 : a + 1 < n ∧ zdg (g (a + 1)) = true
            · rw [if_pos d3, if_pos (Or.inr ⟨d2, d3⟩)]
            · rw [if_neg d3, if_neg (fun q => q.elim d1 (fun q => d3 q.2))]
          · rw [if_neg (fun q => d2 ((zn_eq (by omega) (by decide)).mp q)), if_neg (fun q => q.elim d1 (fun q => d2 q.1))]
      rw [stp]
      by_cases d : zdg (g a) = true ∨ (g a = 45 ∧ a + 1 < n ∧ zdg (g (a + 1)) = true)
      · have hz : zdg (g (zst0 g a)) = true ∧ zst0 g a < n := by
          unfold zst0
          by_cases d2 : g a = 45
          · rw [if_pos d2]
            have : ¬ zdg (g a) = true := by rw [d2]; decide
            have := d.resolve_left this
            exact ⟨this.2.2, this.2.1⟩
          · rw [if_neg d2]
            exact ⟨d.resolve_right (fun q => d2 q.1), han⟩
        obtain ⟨I2, q1, q2, q3⟩ := m_num143 X (b := b) (J := J) h1 han hz.1 hz.2 c1' e8 e10 (d.imp id (fun q => q.1))
        rw [if_pos d]
        exact ⟨I2, q1, q2, zfrN_tr f1 q3⟩
      · rw [if_neg d]
        have hfin : zg_M_next0_283 X 181 (Int32.ofNat (g a)) (zM b I1 J) = some (none, zM b (zst (zst I1 181 8 (Int32.ofNat (a + 1))) 181 9 (Int32.ofNat (if g a = 59 then 3 else 1))) J) := by
          rw [zg_M_next0_283_e, zo181, zo181, zM_wI, zM_I, e8, zn_add1, zg_M_next0_304_e, zg_M_next0_305_e, zg_M_next0_305_e, zo181, zo181, zM_wI, zM_wI, zg_M_next0_308_e, zg_M_next0_308_e, e59]
          by_cases d2 : g a = 59
          · rw [if_pos (by rw [d2]), if_pos d2]
            rfl
          · rw [if_neg (fun q => d2 ((zn_eq (by omega) (by decide)).mp q)), if_neg d2]
            rfl
        have ekb : zkd g n a = (if g a = 59 then 3 else 1) ∧ zbh g n a = a + 1 := by
          unfold zkd zbh
          rw [if_neg c, if_neg c, if_neg c1, if_neg c1]
          by_cases d2 : g a = 45
          · have d3 : ¬ (a + 1 < n ∧ zdg (g (a + 1)) = true) := fun q => d (Or.inr ⟨d2, q⟩)
            have ez : zst0 g a = a + 1 := by unfold zst0; rw [if_pos d2]
            rw [if_pos (Or.inr d2), if_pos (Or.inr d2), ez, zre_n d3, Nat.sub_self, if_neg (by omega), if_neg (by omega)]
            exact ⟨rfl, rfl⟩
          · have d3 : ¬ (zdg (g a) = true ∨ g a = 45) := fun q => q.elim (fun q => d (Or.inl q)) d2
            rw [if_neg d3, if_neg d3]
            exact ⟨rfl, rfl⟩
        refine ⟨_, hfin, ⟨by rw [zst_self, ekb.1], by rw [zst_off (by decide), zst_off (by decide)]; exact e10, by rw [zst_off (by decide), zst_self, ekb.2], fun q => ?_⟩, zfrN_tr f1 (zfrN_tr (zfrN_st (Or.inl rfl)) (zfrN_st (Or.inr (Or.inl rfl))))⟩
        rw [ekb.1] at q
        split at q <;> omega
end ZTN
