/-! the object splits its tape -/
theorem zifc {α : Type} {p q : Prop} {d : Decidable p} {d' : Decidable q} {x y : α} (h : p ↔ q) : (if p then x else y) = (if q then x else y) := by
  by_cases c : p
  · rw [if_pos c, if_pos (h.mp c)]
  · rw [if_neg c, if_neg (fun w => c (h.mpr w))]
def zsg (c : Nat) : Int := if c < 128 then c else (c : Int) - 256
def zTO (I : zI) (g : Nat → Nat) (n : Nat) : Prop := n ≤ 600 ∧ I 31 1 = Int32.ofNat n ∧ ∀ i, i < n → (I 32 i).toInt = zsg (g i) ∧ g i < 256
theorem zTO_fr {I I' : zI} {g : Nat → Nat} {n : Nat} (h : zTO I g n) (h1 : I' 31 1 = I 31 1) (h2 : I' 32 = I 32) : zTO I' g n := by
  unfold zTO at *
  rw [h1, h2]; exact h
theorem zlt7 {c : Nat} (h : c < 256) : (c < 128 ∧ zsg c = c) ∨ (128 ≤ c ∧ zsg c = (c : Int) - 256) := by
  unfold zsg
  split <;> omega
section ZTC
variable (X : zv_X) {b : Bool} {I : zI} {J : zJ} {g : Nat → Nat} {n : Nat}
theorem c_isLetter {i : Nat} (h : zTO I g n) (hi : i < n) : zg_Teller_isLetter_0 X 31 (Int32.ofNat i) (zM b I J) = some (some (.int (if zle (g i) = true then 1 else 0)), zM b I J) := by
  obtain ⟨h1, h2, h3⟩ := h
  obtain ⟨hv, hg⟩ := h3 i hi
  have e97 : (97 : Int32).toInt = 97 := rfl
  have e122 : (122 : Int32).toInt = 122 := rfl
  have e65 : (65 : Int32).toInt = 65 := rfl
  have e90 : (90 : Int32).toInt = 90 := rfl
  simp only [zg_Teller_isLetter_0_e, zg_Teller_isLetter_22_e, zg_Teller_isLetter_44_e, zg_Teller_isLetter_48_e, zg_Teller_isLetter_49_e, zo31, zM_P, zp31_0, zrf, zx32 (show i < 600 by omega), zM_I, zi_lt, zi_le, hv, e97, e122, e65, e90, zrb0, zrb1, zle_iff]
  rcases zlt7 hg with ⟨q1, q2⟩ | ⟨q1, q2⟩ <;> rw [q2] <;> (repeat' split) <;> first | rfl | (exfalso; omega)
theorem c_isDigit {i : Nat} (h : zTO I g n) (hi : i < n) : zg_Teller_isDigit_0 X 31 (Int32.ofNat i) (zM b I J) = some (some (.int (if zdg (g i) = true then 1 else 0)), zM b I J) := by
  obtain ⟨h1, h2, h3⟩ := h
  obtain ⟨hv, hg⟩ := h3 i hi
  have e48 : (48 : Int32).toInt = 48 := rfl
  have e57 : (57 : Int32).toInt = 57 := rfl
  simp only [zg_Teller_isDigit_0_e, zg_Teller_isDigit_26_e, zg_Teller_isDigit_27_e, zo31, zM_P, zp31_0, zrf, zx32 (show i < 600 by omega), zM_I, zi_lt, zi_le, hv, e48, e57, zrb0, zrb1, zdg_iff]
  rcases zlt7 hg with ⟨q1, q2⟩ | ⟨q1, q2⟩ <;> rw [q2] <;> (repeat' split) <;> first | rfl | (exfalso; omega)
theorem zbyte {i : Nat} (h : zTO I g n) (hi : i < n) {L : Nat} (hL : L < 128) : I 32 i = Int32.ofNat L ↔ g i = L := by
  obtain ⟨hv, hg⟩ := h.2.2 i hi
  rw [zi_eq, hv, zn_int (by omega)]
  rcases zlt7 hg with ⟨q1, q2⟩ | ⟨q1, q2⟩ <;> omega
/-- the texts -/
theorem s_len (w : Nat) (hw : w < 6) (M : zv_M) : zg_Str_length_0 X (20 + w) M = some (some (.int (Int32.ofNat (zwd.getD w []).length)), M) := by
  have : w = 0 ∨ w = 1 ∨ w = 2 ∨ w = 3 ∨ w = 4 ∨ w = 5 := by omega
  rcases this with rfl | rfl | rfl | rfl | rfl | rfl <;> simp only [zg_Str_length_0_e, zg_Str_coder_0_e, zg_Str_coder_14_e] <;> rfl
theorem s_isLatin (w : Nat) (hw : w < 6) (M : zv_M) : zg_Str_isLatin1_0 X (20 + w) M = some (some (.int 1), M) := by
  rw [zg_Str_isLatin1_0_e, if_neg (by decide), if_neg (by omega), if_pos ⟨by omega, by omega⟩, if_pos rfl, zg_Str_isLatin1_18_e, zrb1]
theorem s_ox (w i : Nat) (hw : w < 6) (hi : i < (zwd.getD w []).length) : (∀ {α : Type} (k : Int32 → Option α), zv_ox X (20 + w + 30) (Int32.ofNat i) k = k (Int32.ofNat ((zwd.getD w []).getD i 0))) ∧ (zv_old X (20 + w + 30)).1 = (zwd.getD w []).length ∧ zv_i2c (Int32.ofNat ((zwd.getD w []).getD i 0) &&& 255) = Int32.ofNat ((zwd.getD w []).getD i 0) ∧ vp_nar .char (Int32.ofNat ((zwd.getD w []).getD i 0)) = Int32.ofNat ((zwd.getD w []).getD i 0) := by
  have : w = 0 ∨ w = 1 ∨ w = 2 ∨ w = 3 ∨ w = 4 ∨ w = 5 := by omega
  rcases this with rfl | rfl | rfl | rfl | rfl | rfl
  all_goals
    have hi' : i = 0 ∨ i = 1 ∨ i = 2 ∨ i = 3 ∨ i = 4 := by
      simp [zwd] at hi
      omega
    rcases hi' with rfl | rfl | rfl | rfl | rfl
    all_goals first
      | (exfalso; revert hi; decide)
      | exact ⟨fun _ => rfl, rfl, rfl, rfl⟩
theorem s_char (w i : Nat) (hw : w < 6) (hi : i < (zwd.getD w []).length) (M : zv_M) : zg_Str_charAt_0 X (20 + w) (Int32.ofNat i) M = some (some (.int (Int32.ofNat ((zwd.getD w []).getD i 0))), M) := by
  have hl : (zwd.getD w []).length ≤ 5 := by
    have : w = 0 ∨ w = 1 ∨ w = 2 ∨ w = 3 ∨ w = 4 ∨ w = 5 := by omega
    rcases this with rfl | rfl | rfl | rfl | rfl | rfl <;> decide
  obtain ⟨o1, o2, o3, o4⟩ := s_ox X w i hw hi
  have e0 : (0 : Int32) = Int32.ofNat 0 := rfl
  rw [zg_Str_charAt_0_e, if_neg (by omega), if_pos ⟨by omega, by omega, rfl⟩, s_isLatin X w hw, zci, if_neg (by decide), if_neg (by omega), if_pos ⟨by omega, by omega⟩, zg_Latin_charAt_0_e, if_neg (by omega), if_pos (Or.inr ⟨by omega, by omega⟩), o2, zg_Str_checkIndex_0_e, zg_Pre_checkIndex_0_e, if_neg (by rw [e0]; exact fun q => absurd ((zn_lt (by omega) (by omega)).mp q) (by omega)), if_pos ((zn_lt (by omega) (by omega)).mpr hi), zg_Pre_checkIndex_16_e, zci, zcv, if_neg (by omega), if_pos ⟨by omega, by omega⟩, o1, o3, if_pos o4, zci, if_pos o4]
theorem zwd_lt (w i : Nat) (hw : w < 6) (hi : i < (zwd.getD w []).length) : (zwd.getD w []).getD i 0 < 128 ∧ (zwd.getD w []).length ≤ 5 := by
  have : w = 0 ∨ w = 1 ∨ w = 2 ∨ w = 3 ∨ w = 4 ∨ w = 5 := by omega
  rcases this with rfl | rfl | rfl | rfl | rfl | rfl
  all_goals
    have hi' : i = 0 ∨ i = 1 ∨ i = 2 ∨ i = 3 ∨ i = 4 := by
      simp [zwd] at hi
      omega
    rcases hi' with rfl | rfl | rfl | rfl | rfl
    all_goals first
      | (exfalso; revert hi; decide)
      | decide
theorem zwd_len (w : Nat) (hw : w < 6) : (zwd.getD w []).length ≤ 5 := by
  have : w = 0 ∨ w = 1 ∨ w = 2 ∨ w = 3 ∨ w = 4 ∨ w = 5 := by omega
  rcases this with rfl | rfl | rfl | rfl | rfl | rfl <;> decide
theorem c_stands15 (h : zTO I g n) {a w : Nat} (hw : w < 6) (ha : a + (zwd.getD w []).length ≤ n) : ∀ m i, i + m = (zwd.getD w []).length → zg_Teller_stands_15 X 31 (20 + w) (Int32.ofNat a) (Int32.ofNat i) (zM b I J) = some (some (.int (if ∀ k, k < (zwd.getD w []).length → i ≤ k → g (a + k) = (zwd.getD w []).getD k 0 then 1 else 0)), zM b I J) := by
  have hl := zwd_len w hw
  have h6 := h.1
  have c1 : ¬ (20 + w = 90) := by omega
  have c2 : 20 ≤ 20 + w ∧ 20 + w < 27 ∧ 22 = 22 := ⟨by omega, by omega, rfl⟩
  intro m
  induction m with
  | zero =>
    intro i hi
    rw [zg_Teller_stands_15_e, if_neg c1, if_pos c2, s_len X w hw, zci, if_pos ((zn_le (by omega) (by omega)).mpr (by omega)), zg_Teller_stands_50_e, zrb1, if_pos]
    intro k k2 k1; omega
  | succ m ih =>
    intro i hi
    have hb := zwd_lt w i hw (by omega)
    have hch := zbyte h (i := a + i) (by omega) hb.1
    rw [zg_Teller_stands_15_e, if_neg c1, if_pos c2, s_len X w hw, zci, if_neg (fun q => absurd ((zn_le (by omega) (by omega)).mp q) (by omega)), zo31, zM_P, zp31_0, zrf, zn_add, zx32 (by omega), if_neg c1, if_pos c2, s_char X w i hw (by omega), zci, zM_I, zg_Teller_stands_44_e, zn_add1, ih (i + 1) (by omega), zrb0]
    by_cases c : g (a + i) = (zwd.getD w []).getD i 0
    · rw [if_pos (hch.mpr c)]
      congr 3
      refine congrArg Value.int (zifc ?_)
      constructor
      · intro q k k2 k1
        rcases Nat.lt_or_ge i k with d | d
        · exact q k k2 d
        · have : k = i := by omega
          rw [this]; exact c
      · exact fun q k k2 k1 => q k k2 (by omega)
    · rw [if_neg (fun q => c (hch.mp q)), if_neg (fun q => c (q i (by omega) (Nat.le_refl _)))]
theorem c_stnd (h : zTO I g n) {a z w : Nat} (hw : w < 6) (haz : a ≤ z) (hz : z ≤ n) : zg_Teller_stands_0 X 31 (20 + w) (Int32.ofNat a) (Int32.ofNat z) (zM b I J) = some (some (.int (if zis g a z (zwd.getD w []) then 1 else 0)), zM b I J) := by
  have hl := zwd_len w hw
  have h6 := h.1
  have c1 : ¬ (20 + w = 90) := by omega
  have c2 : 20 ≤ 20 + w ∧ 20 + w < 27 ∧ 22 = 22 := ⟨by omega, by omega, rfl⟩
  rw [zg_Teller_stands_0_e, if_neg c1, if_pos c2, s_len X w hw, zci, zn_sub haz]
  by_cases c : z - a = (zwd.getD w []).length
  · have := c_stands15 X (b := b) (J := J) h hw (show a + (zwd.getD w []).length ≤ n by omega) _ 0 (Nat.zero_add _)
    have this' : zg_Teller_stands_15 X 31 (20 + w) (Int32.ofNat a) 0 (zM b I J) = _ := this
    rw [if_pos (by rw [c]), zg_Teller_stands_12_e, this']
    congr 3
    refine congrArg Value.int (zifc ?_)
    constructor
    · exact fun q => ⟨c, fun k hk => q k hk (Nat.zero_le _)⟩
    · exact fun q k hk _ => q.2 k hk
  · rw [if_neg (fun q => c ((zn_eq (by omega) (by omega)).mp q)), if_neg (fun q => c q.1), zrb0]
theorem c_keyword (w : Nat) (hw : w < 6) (M : zv_M) : zg_Teller_keyword_0 X (Int32.ofNat w) M = some (some (.retAddr (20 + w)), M) := by
  have : w = 0 ∨ w = 1 ∨ w = 2 ∨ w = 3 ∨ w = 4 ∨ w = 5 := by omega
  rcases this with rfl | rfl | rfl | rfl | rfl | rfl
  · rw [zg_Teller_keyword_0_e, if_neg (by decide)]; exact zg_Teller_keyword_40_e X M
  · rw [zg_Teller_keyword_0_e, if_neg (by decide)]; exact zg_Teller_keyword_43_e X M
  · rw [zg_Teller_keyword_0_e, if_neg (by decide)]; exact zg_Teller_keyword_46_e X M
  · rw [zg_Teller_keyword_0_e, if_neg (by decide)]; exact zg_Teller_keyword_49_e X M
  · rw [zg_Teller_keyword_0_e, if_neg (by decide)]; exact zg_Teller_keyword_52_e X M
  · rw [zg_Teller_keyword_0_e, if_neg (by decide)]; exact zg_Teller_keyword_55_e X M
/-- a token as the object keeps it -/
def zkO (c : Nat) : Nat := if 4 ≤ c then 1 else if c = 1 then 4 else c
def zfrT (I I' : zI) (t : Nat) : Prop := (∀ c, c ≠ 37 → c ≠ 39 → I' c = I c) ∧ ∀ j, j ≠ t → I' 37 j = I 37 j ∧ I' 39 j = I 39 j
theorem zfrT_tr {I I' I'' : zI} {t : Nat} (h : zfrT I I' t) (h' : zfrT I' I'' t) : zfrT I I'' t := ⟨fun c c1 c2 => (h'.1 c c1 c2).trans (h.1 c c1 c2), fun j hj => ⟨((h'.2 j hj).1).trans (h.2 j hj).1, ((h'.2 j hj).2).trans (h.2 j hj).2⟩⟩
theorem c_word34 {t a z : Nat} (ht : t < 601) (haz : a ≤ z) (hz : z ≤ n) : ∀ (m w : Nat) (I : zI), w + m = 6 → zTO I g n → I 37 t = Int32.ofNat (zkO (zwl g a z w)) → (4 ≤ zwl g a z w → I 39 t = Int32.ofNat (zwl g a z w - 4)) → ∃ I', zg_Teller_splitWord_34 X 31 (Int32.ofNat t) (Int32.ofNat a) (Int32.ofNat z) (Int32.ofNat w) (zM b I J) = some (some (.int (Int32.ofNat z)), zM b I' J) ∧ I' 37 t = Int32.ofNat (zkO (zwl g a z 6)) ∧ (4 ≤ zwl g a z 6 → I' 39 t = Int32.ofNat (zwl g a z 6 - 4)) ∧ zfrT I I' t := by
  intro m
  induction m with
  | zero =>
    intro w I hw h h37 h39
    have : w = 6 := by omega
    subst this
    refine ⟨I, ?_, h37, h39, fun c _ _ => rfl, fun j _ => ⟨rfl, rfl⟩⟩
    rw [zg_Teller_splitWord_34_e, if_pos (by decide), zg_Teller_splitWord_76_e]
  | succ m ih =>
    intro w I hw h h37 h39
    have e6 : (6 : Int32) = Int32.ofNat 6 := rfl
    have st : zg_Teller_splitWord_34 X 31 (Int32.ofNat t) (Int32.ofNat a) (Int32.ofNat z) (Int32.ofNat w) (zM b I J) = if zis g a z (zwd.getD w []) then zg_Teller_splitWord_34 X 31 (Int32.ofNat t) (Int32.ofNat a) (Int32.ofNat z) (Int32.ofNat (w + 1)) (zM b (zst (zst I 37 t 1) 39 t (Int32.ofNat w)) J) else zg_Teller_splitWord_34 X 31 (Int32.ofNat t) (Int32.ofNat a) (Int32.ofNat z) (Int32.ofNat (w + 1)) (zM b I J) := by
      conv => lhs; rw [zg_Teller_splitWord_34_e, if_neg (by rw [e6]; exact fun q => absurd ((zn_le (by omega) (by omega)).mp q) (by omega)), c_keyword X w (by omega), zcr, zo31, c_stnd X h (by omega) haz hz, zci, zo31, zM_P, zp31_6, zrf, zx37 (by omega), zM_wI, zo31, zM_P, zp31_8, zrf, zx39 (by omega), zM_wI, zg_Teller_splitWord_70_e, zg_Teller_splitWord_70_e, zn_add1, zif10]
    rw [st]
    by_cases c : zis g a z (zwd.getD w [])
    · have e1 : zwl g a z (w + 1) = 4 + w := by rw [zwl, if_pos c]
      obtain ⟨I', q1, q2, q3, q4⟩ := ih (w + 1) (zst (zst I 37 t 1) 39 t (Int32.ofNat w)) (by omega) (zTO_fr h (by rw [zst_ne (by decide), zst_ne (by decide)]) (by rw [zst_ne (by decide), zst_ne (by decide)])) (by
        rw [zst_ne (by decide), zst_self, e1]
        unfold zkO
        rw [if_pos (by omega)]; rfl) (fun _ => by
        rw [zst_self, e1]
        congr 1; omega)
      rw [if_pos c]
      refine ⟨I', q1, q2, q3, zfrT_tr ⟨fun k k1 k2 => by rw [zst_ne k2, zst_ne k1], fun j hj => ⟨by rw [zst_ne (by decide), zst_off hj], by rw [zst_off hj, zst_ne (by decide)]⟩⟩ q4⟩
    · have e1 : zwl g a z (w + 1) = zwl g a z w := by rw [zwl, if_neg c]
      rw [if_neg c]
      exact ih (w + 1) I (by omega) h (by rw [e1]; exact h37) (by rw [e1]; exact h39)
theorem c_word2 (h : zTO I g n) {t a : Nat} : ∀ m z, z + m = n → zg_Teller_splitWord_2 X 31 (Int32.ofNat t) (Int32.ofNat a) (Int32.ofNat z) (zM b I J) = zg_Teller_splitWord_24 X 31 (Int32.ofNat t) (Int32.ofNat a) (Int32.ofNat (zre zle g n z)) (zM b I J) := by
  have h6 := h.1
  intro m
  induction m with
  | zero =>
    intro z hz
    rw [zg_Teller_splitWord_2_e, zo31, zM_I, h.2.1, if_pos ((zn_le (by omega) (by omega)).mpr (by omega)), zre_n (by omega)]
  | succ m ih =>
    intro z hz
    conv => lhs; rw [zg_Teller_splitWord_2_e, zo31, zM_I, h.2.1, if_neg (fun q => absurd ((zn_le (by omega) (by omega)).mp q) (by omega)), zo31, c_isLetter X h (by omega), zci, zif10]
    by_cases c : zle (g z) = true
    · rw [if_pos c, zn_add1, ih (z + 1) (by omega), zre_y (by omega) c]
    · rw [if_neg c, zre_n (fun q => c q.2)]
theorem c_splitWord (h : zTO I g n) {t a : Nat} (ht : t < 601) (ha : a < n) : ∃ I', zg_Teller_splitWord_0 X 31 (Int32.ofNat t) (Int32.ofNat a) (zM b I J) = some (some (.int (Int32.ofNat (zre zle g n a))), zM b I' J) ∧ I' 37 t = Int32.ofNat (zkO (zwl g a (zre zle g n a) 6)) ∧ (4 ≤ zwl g a (zre zle g n a) 6 → I' 39 t = Int32.ofNat (zwl g a (zre zle g n a) 6 - 4)) ∧ zfrT I I' t := by
  have hb := zre_bd (p := zle) (g := g) (n := n) (a := a) (by omega)
  obtain ⟨I', q1, q2, q3, q4⟩ := c_word34 X (b := b) (J := J) (g := g) (n := n) (t := t) (a := a) (z := zre zle g n a) ht hb.1 hb.2 6 0 (zst I 37 t 4) (by omega) (zTO_fr h (by rw [zst_ne (by decide)]) (by rw [zst_ne (by decide)])) (by rw [zst_self]; rfl) (fun q => absurd q (by show ¬ 4 ≤ 1; decide))
  have q1' : zg_Teller_splitWord_34 X 31 (Int32.ofNat t) (Int32.ofNat a) (Int32.ofNat (zre zle g n a)) 0 (zM b (zst I 37 t 4) J) = _ := q1
  refine ⟨I', ?_, q2, q3, zfrT_tr ⟨fun k k1 _ => zst_ne k1, fun j hj => ⟨zst_off hj, by rw [zst_ne (by decide)]⟩⟩ q4⟩
  rw [zg_Teller_splitWord_0_e, c_word2 X h (n - a) a (by omega), zg_Teller_splitWord_24_e, zo31, zM_P, zp31_6, zrf, zx37 (by omega), zM_wI, q1']
theorem c_num36 (h : zTO I g n) {t s : Nat} {l3 : Int32} (hs : s ≤ n) : ∀ m z, z + m = n → s ≤ z → (∀ i, s ≤ i → i < z → zdg (g i) = true) → zg_Teller_splitNumber_36 X 31 (Int32.ofNat t) l3 (Int32.ofNat z) (Int32.ofNat (z - s)) (Int32.ofNat (zdv g s (min 9 (z - s)))) (zM b I J) = zg_Teller_splitNumber_93 X 31 (Int32.ofNat t) l3 (Int32.ofNat (zre zdg g n z)) (Int32.ofNat (zre zdg g n z - s)) (Int32.ofNat (zdv g s (min 9 (zre zdg g n z - s)))) (zM b I J) := by
  have h6 := h.1
  intro m
  induction m with
  | zero =>
    intro z hz hsz hd
    rw [zg_Teller_splitNumber_36_e, zo31, zM_I, h.2.1, if_pos ((zn_le (by omega) (by omega)).mpr (by omega)), zre_n (by omega)]
  | succ m ih =>
    intro z hz hsz hd
    have hc := h.2.2 z (by omega)
    by_cases c : zdg (g z) = true
    · have ih' := ih (z + 1) (by omega) (by omega) (fun i i1 i2 => by
        rcases Nat.lt_or_ge i z with w | w
        · exact hd i i1 w
        · have : i = z := by omega
          rw [this]; exact c)
      have e9 : (9 : Int32) = Int32.ofNat 9 := rfl
      conv => lhs; rw [zg_Teller_splitNumber_36_e, zo31, zM_I, h.2.1, if_neg (fun q => absurd ((zn_le (by omega) (by omega)).mp q) (by omega)), zo31, c_isDigit X h (by omega), zci, zif10, if_pos c, zn_add1, e9, zg_Teller_splitNumber_83_e, zg_Teller_splitNumber_85_e, zo31, zM_P, zp31_0, zrf, zx32 (by omega), zg_Teller_splitNumber_85_e, zn_add1, show z - s + 1 = z + 1 - s by omega]
      rw [zre_y (by omega) c, ← ih']
      by_cases d : 9 < z + 1 - s
      · rw [if_pos ((zn_lt (by omega) (by omega)).mpr d), show min 9 (z + 1 - s) = min 9 (z - s) by omega]
      · rw [if_neg (fun q => d ((zn_lt (by omega) (by omega)).mp q))]
        have hv : I 32 z = Int32.ofNat (g z) := by
          have := zdg_iff.mp c
          exact (zbyte h (by omega) (by omega)).mpr rfl
        have hdg := zdg_iff.mp c
        have e10 : (10 : Int32) = Int32.ofNat 10 := rfl
        have e48 : (48 : Int32) = Int32.ofNat 48 := rfl
        have ev : (10 * Int32.ofNat (zdv g s (min 9 (z - s))) + I 32 z) - 48 = Int32.ofNat (zdv g s (min 9 (z + 1 - s))) := by
          rw [hv, e10, zn_mul, zn_add, e48, zn_sub (by omega)]
          congr 1
          rw [show min 9 (z + 1 - s) = (z - s) + 1 by omega, show min 9 (z - s) = z - s by omega, zdv, show s + (z - s) = z by omega]
          omega
        rw [zM_I, ev]
    · conv => lhs; rw [zg_Teller_splitNumber_36_e, zo31, zM_I, h.2.1, if_neg (fun q => absurd ((zn_le (by omega) (by omega)).mp q) (by omega)), zo31, c_isDigit X h (by omega), zci, zif10, if_neg c]
      rw [zre_n (fun q => c q.2)]
theorem c_splitNumber (h : zTO I g n) {t a : Nat} (ht : t < 601) (ha : a < n) : ∃ I', zg_Teller_splitNumber_0 X 31 (Int32.ofNat t) (Int32.ofNat a) (zM b I J) = some (some (.int (Int32.ofNat (zre zdg g n (zst0 g a)))), zM b I' J) ∧ I' 37 t = Int32.ofNat (zkO (if 1 ≤ zre zdg g n (zst0 g a) - zst0 g a ∧ zre zdg g n (zst0 g a) - zst0 g a ≤ 9 then 2 else 1)) ∧ I' 39 t = zvl g n a ∧ zfrT I I' t := by
  have h6 := h.1
  have hs := zst0_bd (g := g) ha
  have hb := zre_bd (p := zdg) (g := g) (n := n) (a := zst0 g a) hs.2
  have e45 : (45 : Int32) = Int32.ofNat 45 := rfl
  have h45 := zbyte h ha (L := 45) (by decide)
  have st : ∃ l3 : Int32, zg_Teller_splitNumber_0 X 31 (Int32.ofNat t) (Int32.ofNat a) (zM b I J) = zg_Teller_splitNumber_36 X 31 (Int32.ofNat t) l3 (Int32.ofNat (zst0 g a)) 0 0 (zM b I J) ∧ (g a = 45 → l3 = 1) ∧ (¬ g a = 45 → l3 = 0) := by
    unfold zst0
    by_cases c : g a = 45
    · refine ⟨1, ?_, fun _ => rfl, fun q => absurd c q⟩
      rw [zg_Teller_splitNumber_0_e, zo31, zM_P, zp31_0, zrf, zx32 (by omega), zM_I, e45, if_pos (h45.mpr c), zg_Teller_splitNumber_16_e, if_neg (by decide), zg_Teller_splitNumber_28_e, zn_add1, if_pos c]
    · refine ⟨0, ?_, fun q => absurd q c, fun _ => rfl⟩
      rw [zg_Teller_splitNumber_0_e, zo31, zM_P, zp31_0, zrf, zx32 (by omega), zM_I, e45, if_neg (fun q => c (h45.mp q)), zg_Teller_splitNumber_15_e, zg_Teller_splitNumber_16_e, if_pos rfl, zg_Teller_splitNumber_27_e, zg_Teller_splitNumber_28_e, if_neg c]
  obtain ⟨l3, s1, s2, s3⟩ := st
  have h36 := c_num36 X (b := b) (J := J) (t := t) (l3 := l3) h hs.2 (n - zst0 g a) (zst0 g a) (by omega) (Nat.le_refl _) (fun i i1 i2 => by omega)
  rw [Nat.sub_self] at h36
  have h36' : zg_Teller_splitNumber_36 X 31 (Int32.ofNat t) l3 (Int32.ofNat (zst0 g a)) 0 0 (zM b I J) = _ := h36
  generalize hz : zre zdg g n (zst0 g a) = z at *
  have e9 : (9 : Int32) = Int32.ofNat 9 := rfl
  have e1 : (1 : Int32) = Int32.ofNat 1 := rfl
  have h93 : ∀ l6 : Int32, zg_Teller_splitNumber_93 X 31 (Int32.ofNat t) l3 (Int32.ofNat z) (Int32.ofNat (z - zst0 g a)) l6 (zM b I J) = zg_Teller_splitNumber_116 X 31 (Int32.ofNat t) l3 (Int32.ofNat z) l6 (Int32.ofNat (zkO (if 1 ≤ z - zst0 g a ∧ z - zst0 g a ≤ 9 then 2 else 1))) (Int32.ofNat t) 37 (zM b I J) := fun l6 => by
    rw [zg_Teller_splitNumber_93_e, zo31, zM_P, zp31_6, zrf, zg_Teller_splitNumber_115_e, e9, e1]
    by_cases c1 : 1 ≤ z - zst0 g a
    · rw [if_neg (fun q => absurd ((zn_lt (by omega) (by omega)).mp q) (by omega))]
      by_cases c2 : z - zst0 g a ≤ 9
      · rw [if_neg (fun q => absurd ((zn_lt (by omega) (by omega)).mp q) (by omega)), if_pos ⟨c1, c2⟩]
        rfl
      · rw [if_pos ((zn_lt (by omega) (by omega)).mpr (by omega)), if_neg (fun q => c2 q.2)]
        rfl
    · rw [if_pos ((zn_lt (by omega) (by omega)).mpr (by omega)), if_neg (fun q => c1 q.1)]
      rfl
  refine ⟨zst (zst I 37 t (Int32.ofNat (zkO (if 1 ≤ z - zst0 g a ∧ z - zst0 g a ≤ 9 then 2 else 1)))) 39 t (zvl g n a), ?_, by rw [zst_ne (by decide), zst_self], by rw [zst_self], ⟨fun c c1 c2 => by rw [zst_ne c2, zst_ne c1], fun j hj => ⟨by rw [zst_ne (by decide), zst_off hj], by rw [zst_off hj, zst_ne (by decide)]⟩⟩⟩
  rw [s1, h36', h93, zg_Teller_splitNumber_116_e, zx37 (by omega), zM_wI, zo31, zM_P, zp31_8, zrf, zg_Teller_splitNumber_132_e, zg_Teller_splitNumber_134_e, zg_Teller_splitNumber_134_e, zx39 (by omega), zM_wI, zx39 (by omega), zM_wI]
  unfold zvl
  rw [hz]
  by_cases c : g a = 45
  · rw [s2 c, if_neg (by decide), if_pos c]
  · rw [s3 c, if_pos rfl, if_neg c]
theorem c_split (h : zTO I g n) {t a : Nat} (ht : t < 601) (ha : a < n) : ∃ I', zg_Teller_split_0 X 31 (Int32.ofNat t) (Int32.ofNat a) (zM b I J) = some (some (.int (Int32.ofNat (zbh g n a))), zM b I' J) ∧ I' 37 t = Int32.ofNat (zkO (zkd g n a)) ∧ (zkd g n a = 2 → I' 39 t = zvl g n a) ∧ (4 ≤ zkd g n a → I' 39 t = Int32.ofNat (zkd g n a - 4)) ∧ zfrT I I' t := by
  have h6 := h.1
  have e45 : (45 : Int32) = Int32.ofNat 45 := rfl
  have e59 : (59 : Int32) = Int32.ofNat 59 := rfl
  have h45 := zbyte h ha (L := 45) (by decide)
  have h59 := zbyte h ha (L := 59) (by decide)
  by_cases c : zle (g a) = true
  · obtain ⟨I', q1, q2, q3, q4⟩ := c_splitWord X (b := b) (J := J) h ht ha
    have ek : zkd g n a = zwl g a (zre zle g n a) 6 := by unfold zkd; rw [if_neg (by omega), if_pos c]
    have eb : zbh g n a = zre zle g n a := by unfold zbh; rw [if_neg (by omega), if_pos c]
    have hw := zwl_rng (g := g) a (zre zle g n a) 6
    refine ⟨I', ?_, by rw [ek]; exact q2, fun q => by rw [ek] at q; omega, by rw [ek]; exact q3, q4⟩
    rw [zg_Teller_split_0_e, zo31, c_isLetter X h ha, zci, zif10, if_pos c, zo31, q1, zci, eb]
  · have st : zg_Teller_split_0 X 31 (Int32.ofNat t) (Int32.ofNat a) (zM b I J) = if zdg (g a) = true ∨ g a = 45 then zg_Teller_split_34 X 31 (Int32.ofNat t) (Int32.ofNat a) (zM b I J) else zg_Teller_split_41 X 31 (Int32.ofNat t) (Int32.ofNat a) (zM b I J) := by
      rw [zg_Teller_split_0_e, zo31, c_isLetter X h ha, zci, zif10, if_neg c, zg_Teller_split_15_e, zo31, c_isDigit X h ha, zci, zif10, zo31, zM_P, zp31_0, zrf, zx32 (by omega), zM_I, e45]
      by_cases d : zdg (g a) = true
      · rw [if_pos d, if_pos (Or.inl d)]
      · rw [if_neg d]
        by_cases d2 : g a = 45
        · rw [if_pos (h45.mpr d2), if_pos (Or.inr d2)]
        · rw [if_neg (fun q => d2 (h45.mp q)), if_neg (fun q => q.elim d d2)]
    by_cases d : zdg (g a) = true ∨ g a = 45
    · obtain ⟨I', q1, q2, q3, q4⟩ := c_splitNumber X (b := b) (J := J) h ht ha
      have ek : zkd g n a = if 1 ≤ zre zdg g n (zst0 g a) - zst0 g a ∧ zre zdg g n (zst0 g a) - zst0 g a ≤ 9 then 2 else 1 := by unfold zkd; rw [if_neg (by omega), if_neg c, if_pos d]
      have eb : zbh g n a = zre zdg g n (zst0 g a) := by unfold zbh; rw [if_neg (by omega), if_neg c, if_pos d]
      refine ⟨I', ?_, by rw [ek]; exact q2, fun _ => q3, fun q => ?_, q4⟩
      · rw [st, if_pos d, zg_Teller_split_34_e, zo31, q1, zci, eb]
      · rw [ek] at q
        split at q <;> omega
    · have eb : zbh g n a = a + 1 := by unfold zbh; rw [if_neg (by omega), if_neg c, if_neg d]
      have ek : zkd g n a = if g a = 59 then 3 else 1 := by unfold zkd; rw [if_neg (by omega), if_neg c, if_neg d]
      refine ⟨zst I 37 t (Int32.ofNat (zkO (zkd g n a))), ?_, by rw [zst_self], fun q => ?_, fun q => ?_, ⟨fun k k1 _ => zst_ne k1, fun j hj => ⟨zst_off hj, by rw [zst_ne (by decide)]⟩⟩⟩
      · rw [st, if_neg d, zg_Teller_split_41_e, zo31, zM_P, zp31_6, zrf, zo31, zp31_0, zrf, zx32 (by omega), zM_I, e59, zg_Teller_split_61_e, zg_Teller_split_62_e, zg_Teller_split_62_e, zx37 (by omega), zM_wI, zx37 (by omega), zM_wI, zn_add1, eb, ek]
        by_cases d2 : g a = 59
        · rw [if_pos (h59.mpr d2), if_pos d2]
          rfl
        · rw [if_neg (fun q => d2 (h59.mp q)), if_neg d2]
          rfl
      · rw [ek] at q
        split at q <;> omega
      · rw [ek] at q
        split at q <;> omega
/-- the tokens that were split off -/
def zTk (I : zI) (g : Nat → Nat) (n k : Nat) : Prop := I 38 k = Int32.ofNat (zpt g n k) ∧ I 37 k = Int32.ofNat (zkO (zk g n k)) ∧ (zk g n k = 2 → I 39 k = zvl g n (zpt g n k)) ∧ (4 ≤ zk g n k → I 39 k = Int32.ofNat (zk g n k - 4))
def zTks (I : zI) (g : Nat → Nat) (n N : Nat) : Prop := N ≤ 600 ∧ zpt g n N = n ∧ (∀ k, k < N → zpt g n k < n) ∧ ∀ k, k ≤ N → zTk I g n k
def zsrc (g : Nat → Nat) (n k : Nat) : Nat := match k with
  | 0 => 0
  | k + 1 => zbh g n (zpt g n k)
theorem zpt_src (k : Nat) : zpt g n k = zre zbl g n (zsrc g n k) := by
  cases k <;> rfl
theorem c_tape4 : ∀ (m a k : Nat) (I : zI), a + m = n → zTO I g n → zpt g n k = zre zbl g n a → (∀ j, j < k → zpt g n j < n ∧ zTk I g n j) → k ≤ a → ∃ I' N, zg_Teller_splitTape_4 X 31 (Int32.ofNat k) (Int32.ofNat a) (zM b I J) = some (none, zM b I' J) ∧ zTks I' g n N ∧ ∀ c, c ≠ 37 → c ≠ 38 → c ≠ 39 → I' c = I c := by
  intro m
  induction m using Nat.strongRecOn with
  | _ m ih =>
    intro a k I ham h hp hk hka
    have h6 := h.1
    have e6 : (600 : Int32) = Int32.ofNat 600 := rfl
    have e10 : (10 : Int32) = Int32.ofNat 10 := rfl
    have e32 : (32 : Int32) = Int32.ofNat 32 := rfl
    rcases Nat.eq_zero_or_pos m with hm | hm
    · have ha : a = n := by omega
      have hpk : zpt g n k = n := by rw [hp, zre_n (by omega), ha]
      have hkd : zk g n k = 0 := zkd_0.mpr (by omega)
      have fr : ∀ c, c ≠ 37 → c ≠ 38 → c ≠ 39 → zst (zst I 37 k 0) 38 k (Int32.ofNat n) c = I c := fun c c1 c2 _ => by rw [zst_ne c2, zst_ne c1]
      refine ⟨zst (zst I 37 k 0) 38 k (Int32.ofNat n), k, ?_, ⟨by omega, hpk, fun j hj => (hk j hj).1, fun j hj => ?_⟩, fr⟩
      · rw [zg_Teller_splitTape_4_e, zo31, zM_I, h.2.1, if_pos ((zn_le (by omega) (by omega)).mpr (by omega)), zg_Teller_splitTape_67_e, zo31, zM_P, zp31_6, zrf, zx37 (by omega), zM_wI, zo31, zM_P, zp31_7, zrf, zo31, zx38 (by omega), zM_wI, zM_I, zst_ne (by decide), h.2.1]
      · rcases Nat.lt_or_ge j k with w | w
        · have := (hk j w).2
          unfold zTk at *
          rw [zst_off (by omega), zst_ne (show 38 ≠ 37 by decide), zst_ne (show 37 ≠ 38 by decide), zst_off (by omega), zst_ne (show 39 ≠ 38 by decide), zst_ne (show 39 ≠ 37 by decide)]
          exact this
        · have : j = k := by omega
          subst this
          refine ⟨by rw [zst_self, hpk], by rw [zst_ne (by decide), zst_self, hkd]; rfl, fun q => by rw [hkd] at q; omega, fun q => by rw [hkd] at q; omega⟩
    · have han : a < n := by omega
      have b32 := zbyte h han (L := 32) (by decide)
      have b10 := zbyte h han (L := 10) (by decide)
      have st : zg_Teller_splitTape_4 X 31 (Int32.ofNat k) (Int32.ofNat a) (zM b I J) = if zbl (g a) = true then zg_Teller_splitTape_4 X 31 (Int32.ofNat k) (Int32.ofNat (a + 1)) (zM b I J) else zg_Teller_splitTape_47 X 31 (Int32.ofNat k) (Int32.ofNat a) (zM b I J) := by
        conv => lhs; rw [zg_Teller_splitTape_4_e, zo31, zM_I, h.2.1, if_neg (fun q => absurd ((zn_le (by omega) (by omega)).mp q) (by omega)), e6, if_neg (fun q => absurd ((zn_le (by omega) (by omega)).mp q) (by omega)), zo31, zM_P, zp31_0, zrf, zx32 (by omega), zo31, zrf, zx32 (by omega), e32, e10, zg_Teller_splitTape_41_e, zn_add1]
        by_cases d1 : g a = 32
        · rw [if_pos (b32.mpr d1), if_pos (zbl_iff.mpr (Or.inl d1))]
        · rw [if_neg (fun q => d1 (b32.mp q))]
          by_cases d2 : g a = 10
          · rw [if_pos (b10.mpr d2), if_pos (zbl_iff.mpr (Or.inr d2))]
          · rw [if_neg (fun q => d2 (b10.mp q)), if_neg (fun q => (zbl_iff.mp q).elim d1 d2)]
      rw [st]
      by_cases c : zbl (g a) = true
      · rw [if_pos c]
        exact ih (m - 1) (by omega) (a + 1) k I (by omega) h (by rw [hp, zre_y han c]) hk (by omega)
      · rw [if_neg c]
        have hpa : zpt g n k = a := by rw [hp, zre_n (fun q => c q.2)]
        obtain ⟨I1, q1, q2, q3, q4, q5⟩ := c_split X (b := b) (J := J) (I := zst I 38 k (Int32.ofNat a)) (t := k) (a := a) (zTO_fr h (by rw [zst_ne (by decide)]) (by rw [zst_ne (by decide)])) (by omega) han
        have hb := zbh_bd (g := g) (n := n) (a := a) (by omega)
        have hb2 := hb.2.2 han
        have h' : zTO I1 g n := zTO_fr h (by rw [q5.1 31 (by decide) (by decide), zst_ne (by decide)]) (by rw [q5.1 32 (by decide) (by decide), zst_ne (by decide)])
        obtain ⟨I2, N, r1, r2, r3⟩ := ih (n - zbh g n a) (by omega) (zbh g n a) (k + 1) I1 (by omega) h' (by rw [zpt, hpa]) (fun j hj => by
          rcases Nat.lt_or_ge j k with w | w
          · refine ⟨(hk j w).1, ?_⟩
            have := (hk j w).2
            unfold zTk at *
            rw [(q5.2 j (by omega)).1, (q5.2 j (by omega)).2, q5.1 38 (by decide) (by decide), zst_off (by omega), zst_ne (by decide), zst_ne (by decide)]
            exact this
          · have : j = k := by omega
            subst this
            refine ⟨by omega, ?_, ?_, ?_, ?_⟩
            · rw [q5.1 38 (by decide) (by decide), zst_self, hpa]
            · unfold zk; rw [hpa]; exact q2
            · unfold zk; rw [hpa]; exact q3
            · unfold zk; rw [hpa]; exact q4) (by omega)
        refine ⟨I2, N, ?_, r2, fun c c1 c2 c3 => by rw [r3 c c1 c2 c3, q5.1 c c1 c3, zst_ne c2]⟩
        rw [zg_Teller_splitTape_47_e, zo31, zM_P, zp31_7, zrf, zx38 (by omega), zM_wI, zo31, q1, zci, zn_add1, r1]
theorem c_splitTape (h : zTO I g n) : ∃ I' N, zg_Teller_splitTape_0 X 31 (zM b I J) = some (none, zM b I' J) ∧ zTks I' g n N ∧ ∀ c, c ≠ 37 → c ≠ 38 → c ≠ 39 → I' c = I c := by
  obtain ⟨I', N, q1, q2, q3⟩ := c_tape4 X (b := b) (J := J) n 0 0 I (Nat.zero_add _) h rfl (fun j hj => by omega) (Nat.le_refl _)
  have q1' : zg_Teller_splitTape_4 X 31 0 0 (zM b I J) = _ := q1
  exact ⟨I', N, by rw [zg_Teller_splitTape_0_e, q1'], q2, q3⟩
end ZTC
