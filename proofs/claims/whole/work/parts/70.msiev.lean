/-! the reference's filter, made ready and asked -/
section ZMSV
variable (X : zv_X) {b : Bool} {J : zJ}
/-- what the reference knows when it sets its bits -/
def zMv (I : zI) (ks : Nat → Int32) (n m hs : Nat) (wd : Int32) : Prop := n ≤ 300 ∧ (∀ i, i < n → I 185 i = ks i) ∧ I 182 5 = Int32.ofNat m ∧ I 182 6 = Int32.ofNat hs ∧ I 182 7 = wd
theorem m_bit24 {ks : Nat → Int32} {n m hs : Nat} {wd l2 : Int32} (hk : ∀ i, i < n → -999999999 ≤ (ks i).toInt ∧ (ks i).toInt ≤ 999999999) (hh : hs ≤ 4) (hm : 0 < m ∧ m ≤ 512) : ∀ (r i : Nat) (I : zI), i + r = n → zMv I ks n m hs wd → (∀ j, j < m → (I 256 j = 0 ↔ ¬ zmk ks hs m (fun i => l2 = 0 ∨ ¬ zspan ks n wd i) i j)) → (∀ k, k < i → (I 257 k = 0 ↔ zspan ks n wd k)) → ∃ I', zg_M_setsBits_24 X 181 (Int32.ofNat n) l2 (Int32.ofNat i) (zM b I J) = some (none, zM b I' J) ∧ (∀ j, j < m → (I' 256 j = 0 ↔ ¬ zmk ks hs m (fun i => l2 = 0 ∨ ¬ zspan ks n wd i) n j)) ∧ (∀ k, k < n → (I' 257 k = 0 ↔ zspan ks n wd k)) ∧ ∀ a, a ≠ 256 → a ≠ 257 → I' a = I a := by
  intro r
  induction r with
  | zero =>
    intro i I hi h hj hsp
    have : i = n := by omega
    subst this
    have hn := h.1
    refine ⟨I, ?_, hj, hsp, fun a _ _ => rfl⟩
    rw [zg_M_setsBits_24_e, if_pos ((zn_le (by omega) (by omega)).mpr (Nat.le_refl _)), zg_M_setsBits_186_e]
  | succ r ih =>
    intro i I hi h hj hsp
    obtain ⟨hn, h1, h2, h3, h4⟩ := h
    have hin : i < n := by omega
    -- left
    have eL : ∃ v : Int32, zg_M_setsBits_24 X 181 (Int32.ofNat n) l2 (Int32.ofNat i) (zM b I J) = zg_M_setsBits_63 X 181 (Int32.ofNat n) l2 (Int32.ofNat i) v (zM b I J) ∧ ((1 ≤ i ∧ znear ks n wd (i - 1)) → v = 1) ∧ (¬ (1 ≤ i ∧ znear ks n wd (i - 1)) → v = 0) := by
      rcases Nat.eq_zero_or_pos i with c | c
      · refine ⟨0, ?_, fun q => by omega, fun _ => rfl⟩
        rw [zg_M_setsBits_24_e, if_neg (fun q => absurd ((zn_le (by omega) (by omega)).mp q) (by omega)), if_pos ((zkn0 (by omega)).mpr (by omega)), zg_M_setsBits_62_e]
      · have st : zg_M_setsBits_24 X 181 (Int32.ofNat n) l2 (Int32.ofNat i) (zM b I J) = if wd < ks i - ks (i - 1) then zg_M_setsBits_63 X 181 (Int32.ofNat n) l2 (Int32.ofNat i) 0 (zM b I J) else zg_M_setsBits_63 X 181 (Int32.ofNat n) l2 (Int32.ofNat i) 1 (zM b I J) := by
          rw [zg_M_setsBits_24_e, if_neg (fun q => absurd ((zn_le (by omega) (by omega)).mp q) (by omega)), if_neg (fun q => absurd ((zkn0 (by omega)).mp q) (by omega)), zo181, zM_P, zp181_4, zrf, zx185 (by omega), zo181, zrf, zn_sub1 c, zx185 (by omega), zo181, zp181_0, zrf, zw_7, zM_I, h4, h1 i hin, h1 (i - 1) (by omega), zg_M_setsBits_62_e]
        have nr : znear ks n wd (i - 1) ↔ ¬ wd < ks i - ks (i - 1) := by
          unfold znear
          rw [show i - 1 + 1 = i by omega]
          exact ⟨fun q => q.2, fun q => ⟨hin, q⟩⟩
        by_cases d : wd < ks i - ks (i - 1)
        · exact ⟨0, by rw [st, if_pos d], fun q => absurd d (nr.mp q.2), fun _ => rfl⟩
        · exact ⟨1, by rw [st, if_neg d], fun _ => rfl, fun q => absurd ⟨c, nr.mpr d⟩ q⟩
    obtain ⟨v, v1, v2, v3⟩ := eL
    have eR : ∃ w : Int32, zg_M_setsBits_63 X 181 (Int32.ofNat n) l2 (Int32.ofNat i) v (zM b I J) = zg_M_setsBits_102 X 181 (Int32.ofNat n) l2 (Int32.ofNat i) v w (zM b I J) ∧ (znear ks n wd i → w = 1) ∧ (¬ znear ks n wd i → w = 0) := by
      by_cases c : n ≤ i + 1
      · refine ⟨0, ?_, fun q => absurd q.1 (by omega), fun _ => rfl⟩
        rw [zg_M_setsBits_63_e, zn_add1, if_pos ((zn_le (by omega) (by omega)).mpr c), zg_M_setsBits_101_e]
      · have st : zg_M_setsBits_63 X 181 (Int32.ofNat n) l2 (Int32.ofNat i) v (zM b I J) = if wd < ks (i + 1) - ks i then zg_M_setsBits_102 X 181 (Int32.ofNat n) l2 (Int32.ofNat i) v 0 (zM b I J) else zg_M_setsBits_102 X 181 (Int32.ofNat n) l2 (Int32.ofNat i) v 1 (zM b I J) := by
          rw [zg_M_setsBits_63_e, zn_add1, if_neg (fun q => c ((zn_le (by omega) (by omega)).mp q)), zo181, zM_P, zp181_4, zrf, zx185 (by omega), zo181, zrf, zx185 (by omega), zo181, zp181_0, zrf, zw_7, zM_I, h4, h1 i hin, h1 (i + 1) (by omega), zg_M_setsBits_101_e]
        by_cases d : wd < ks (i + 1) - ks i
        · exact ⟨0, by rw [st, if_pos d], fun q => absurd d q.2, fun _ => rfl⟩
        · exact ⟨1, by rw [st, if_neg d], fun _ => rfl, fun q => absurd ⟨by omega, d⟩ q⟩
    obtain ⟨w, w1, w2, w3⟩ := eR
    -- isOther
    have eO : ∃ o : Int32, zg_M_setsBits_102 X 181 (Int32.ofNat n) l2 (Int32.ofNat i) v w (zM b I J) = zg_M_setsBits_124 X 181 (Int32.ofNat n) l2 (Int32.ofNat i) o (Int32.ofNat i) 257 (zM b I J) ∧ (zspan ks n wd i → o = 0) ∧ (¬ zspan ks n wd i → o = 1) := by
      rw [zg_M_setsBits_102_e, zo181, zM_P, zp181_32, zrf, zg_M_setsBits_123_e]
      unfold zspan
      rcases Classical.em (1 ≤ i ∧ znear ks n wd (i - 1)) with q1 | q1
      · rw [v2 q1, if_neg (by decide)]
        exact ⟨0, rfl, fun _ => rfl, fun q => absurd (Or.inl q1) q⟩
      · rw [v3 q1, if_pos rfl]
        rcases Classical.em (znear ks n wd i) with q2 | q2
        · rw [w2 q2, if_neg (by decide)]
          exact ⟨0, rfl, fun _ => rfl, fun q => absurd (Or.inr q2) q⟩
        · rw [w3 q2, if_pos rfl]
          exact ⟨1, rfl, fun q => by rcases q with q | q <;> contradiction, fun _ => rfl⟩
    obtain ⟨o, o1, o2, o3⟩ := eO
    have no : zv_nar 3 o = o := by
      rcases Classical.em (zspan ks n wd i) with q | q
      · rw [o2 q]; rfl
      · rw [o3 q]; rfl
    have oz : o = 0 ↔ zspan ks n wd i := by
      constructor
      · intro q
        rcases Classical.em (zspan ks n wd i) with q1 | q1
        · exact q1
        · rw [o3 q1] at q; exact absurd q (by decide)
      · exact o2
    have ext : ∀ j, zmk ks hs m (fun i => l2 = 0 ∨ ¬ zspan ks n wd i) (i + 1) j ↔ (zmk ks hs m (fun i => l2 = 0 ∨ ¬ zspan ks n wd i) i j ∨ ((l2 = 0 ∨ ¬ zspan ks n wd i) ∧ ∃ h, h < hs ∧ zhv (ks i).toInt h m = j)) := fun j => by
      unfold zmk
      constructor
      · rintro ⟨k, k1, k2, k3⟩
        rcases Nat.lt_or_ge k i with c | c
        · exact Or.inl ⟨k, c, k2, k3⟩
        · have : k = i := by omega
          rw [this] at k2 k3
          exact Or.inr ⟨k2, k3⟩
      · rintro (⟨k, k1, k2, k3⟩ | ⟨k2, k3⟩)
        · exact ⟨k, by omega, k2, k3⟩
        · exact ⟨i, by omega, k2, k3⟩
    have hv' : ∀ I' : zI, (∀ a, a ≠ 256 → a ≠ 257 → I' a = I a) → zMv I' ks n m hs wd := fun I' fr => ⟨hn, fun k hk => by rw [fr 185 (by decide) (by decide)]; exact h1 k hk, by rw [fr 182 (by decide) (by decide)]; exact h2, by rw [fr 182 (by decide) (by decide)]; exact h3, by rw [fr 182 (by decide) (by decide)]; exact h4⟩
    have step : zg_M_setsBits_24 X 181 (Int32.ofNat n) l2 (Int32.ofNat i) (zM b I J) = if l2 = 0 ∨ ¬ o = 0 then zg_M_setsBits_144 X 181 (Int32.ofNat n) l2 (Int32.ofNat i) 0 (zM b (zst I 257 i o) J) else zg_M_setsBits_180 X 181 (Int32.ofNat n) l2 (Int32.ofNat i) (zM b (zst I 257 i o) J) := by
      rw [v1, w1, o1, zg_M_setsBits_124_e, zx257 (by omega), zM_wI, no, zg_M_setsBits_141_e, zo181, zM_P, zp181_32, zrf, zx257 (by omega), zM_I, zst_self]
      by_cases c : l2 = 0
      · rw [if_pos c, if_pos (Or.inl c)]
      · rw [if_neg c]
        by_cases d : o = 0
        · rw [if_pos d, if_neg (fun q => q.elim c (fun q => q d))]
        · rw [if_neg d, if_pos (Or.inr d)]
    have h257 : ∀ I' : zI, (∀ k, I' 257 k = (zst I 257 i o) 257 k) → ∀ k, k < i + 1 → (I' 257 k = 0 ↔ zspan ks n wd k) := fun I' e k hk => by
      rw [e]
      rcases Nat.lt_or_ge k i with c | c
      · rw [zst_off (by omega)]; exact hsp k c
      · have : k = i := by omega
        subst this
        rw [zst_self]; exact oz
    by_cases c : l2 = 0 ∨ ¬ o = 0
    · obtain ⟨I1, g1, g2, g3⟩ := m_mark X (b := b) (J := J) (x := ks i) (l1 := 0) (l2 := 0) (hk i hin) hh hm (show i < 302 by omega) rfl hs 0 (zst I 257 i o) (by omega) (by rw [zst_ne (by decide)]; exact h2) (by rw [zst_ne (by decide)]; exact h3) (by rw [zst_ne (by decide)]; exact h1 i hin)
      have c' : l2 = 0 ∨ ¬ zspan ks n wd i := c.elim Or.inl (fun q => Or.inr (fun w => q (oz.mpr w)))
      obtain ⟨I', f1, f2, f3, f4⟩ := ih (i + 1) I1 (by omega) (hv' I1 (fun a a1 a2 => by rw [g3 a a1, zst_ne a2])) (fun j hjm => by
        rw [g2, zst_ne (by decide), hj j hjm, ext]
        constructor
        · rintro ⟨q1, q2⟩ (q | ⟨-, k, k1, k2⟩)
          · exact q1 q
          · exact q2 k (Nat.zero_le _) k1 k2
        · exact fun q => ⟨fun q2 => q (Or.inl q2), fun k _ k1 k2 => q (Or.inr ⟨c', k, k1, k2⟩)⟩) (h257 I1 (fun k => by rw [g3 257 (by decide)]))
      refine ⟨I', ?_, f2, f3, fun a a1 a2 => by rw [f4 a a1 a2, g3 a a1, zst_ne a2]⟩
      have g1' : zg_M_setsBits_144 X 181 (Int32.ofNat n) l2 (Int32.ofNat i) 0 (zM b (zst I 257 i o) J) = _ := g1 (Int32.ofNat n) l2
      rw [step, if_pos c, g1', zg_M_setsBits_180_e, zn_add1, f1]
    · have c' : ¬ (l2 = 0 ∨ ¬ zspan ks n wd i) := fun q => c (q.elim Or.inl (fun q => Or.inr (fun w => q (oz.mp w))))
      obtain ⟨I', f1, f2, f3, f4⟩ := ih (i + 1) (zst I 257 i o) (by omega) (hv' _ (fun a a1 a2 => zst_ne a2)) (fun j hjm => by
        rw [zst_ne (by decide), hj j hjm, ext]
        constructor
        · rintro q (w | w)
          · exact q w
          · exact c' w.1
        · exact fun q w => q (Or.inl w)) (h257 _ (fun k => rfl))
      refine ⟨I', ?_, f2, f3, fun a a1 a2 => by rw [f4 a a1 a2, zst_ne a2]⟩
      rw [step, if_neg c, zg_M_setsBits_180_e, zn_add1, f1]
theorem m_setsBits {I : zI} {ks : Nat → Int32} {n m hs : Nat} {wd l2 : Int32} (hk : ∀ i, i < n → -999999999 ≤ (ks i).toInt ∧ (ks i).toInt ≤ 999999999) (hh : hs ≤ 4) (hm : 0 < m ∧ m ≤ 512) (h : zMv I ks n m hs wd) : ∃ I', zg_M_setsBits_0 X 181 (Int32.ofNat n) l2 (zM b I J) = some (none, zM b I' J) ∧ (∀ j, j < m → (I' 256 j = 0 ↔ ¬ zmk ks hs m (fun i => l2 = 0 ∨ ¬ zspan ks n wd i) n j)) ∧ (∀ k, k < n → (I' 257 k = 0 ↔ zspan ks n wd k)) ∧ ∀ a, a ≠ 256 → a ≠ 257 → I' a = I a := by
  obtain ⟨I1, a1, a2, a3⟩ := m_clear X (b := b) (J := J) 512 0 I (by decide)
  obtain ⟨hn, h1, h2, h3, h4⟩ := h
  obtain ⟨I2, g1, g2, g3, g4⟩ := m_bit24 X (b := b) (J := J) (l2 := l2) (wd := wd) hk hh hm n 0 I1 (by omega) ⟨hn, fun k hk => by rw [a2 185 (by decide)]; exact h1 k hk, by rw [a2 182 (by decide)]; exact h2, by rw [a2 182 (by decide)]; exact h3, by rw [a2 182 (by decide)]; exact h4⟩ (fun j hj => by
    rw [a3, if_pos ⟨Nat.zero_le _, by omega⟩]
    refine ⟨fun _ => ?_, fun _ => rfl⟩
    rintro ⟨i, hi, -⟩
    omega) (fun k hk => by omega)
  refine ⟨I2, ?_, g2, g3, fun a b1 b2 => by rw [g4 a b1 b2, a2 a b1]⟩
  have a1' : zg_M_setsBits_2 X 181 (Int32.ofNat n) l2 0 (zM b I J) = _ := a1 (Int32.ofNat n) l2
  have g1' : zg_M_setsBits_24 X 181 (Int32.ofNat n) l2 0 (zM b I1 J) = _ := g1
  rw [zg_M_setsBits_0_e, a1', g1']
theorem m_pass113 {I : zI} {x : Int32} {m hs : Nat} (hx : -999999999 ≤ x.toInt ∧ x.toInt ≤ 999999999) (hh : hs ≤ 4) (hm : 0 < m ∧ m ≤ 512) (h1 : I 182 5 = Int32.ofNat m) (h2 : I 182 6 = Int32.ofNat hs) : ∀ (r h : Nat), h + r = hs → ((∀ k, h ≤ k → k < hs → I 256 (zhv x.toInt k m) ≠ 0) → zg_M_isPassed_113 X 181 x (Int32.ofNat h) (zM b I J) = some (some (.int 1), zM b I J)) ∧ ((∃ k, h ≤ k ∧ k < hs ∧ I 256 (zhv x.toInt k m) = 0) → zg_M_isPassed_113 X 181 x (Int32.ofNat h) (zM b I J) = some (some (.int 0), zM b I J)) := by
  intro r
  induction r with
  | zero =>
    intro h hr
    refine ⟨fun _ => ?_, fun ⟨k, k1, k2, _⟩ => by omega⟩
    rw [zg_M_isPassed_113_e, zo181, zM_P, zp181_0, zrf, zw_6, zM_I, h2, if_pos ((zn_le (by omega) (by omega)).mpr (by omega)), zg_M_isPassed_148_e, zrb1]
  | succ r ih =>
    intro h hr
    have hlt := zhv_lt (x := x.toInt) (h := h) hm.1
    obtain ⟨i1, i2⟩ := ih (h + 1) (by omega)
    have st : zg_M_isPassed_113 X 181 x (Int32.ofNat h) (zM b I J) = if I 256 (zhv x.toInt h m) = 0 then some (some (.int 0), zM b I J) else zg_M_isPassed_113 X 181 x (Int32.ofNat (h + 1)) (zM b I J) := by
      conv => lhs; rw [zg_M_isPassed_113_e, zo181, zM_P, zp181_0, zrf, zw_6, zM_I, h2, if_neg (fun q => absurd ((zn_le (by omega) (by omega)).mp q) (by omega)), zo181, zp181_31, zrf, zo181, m_hash X hx (by omega) hm h1, zci, zx256 (by omega), zM_I, zrb0, zg_M_isPassed_142_e, zn_add1]
    rw [st]
    constructor
    · intro q
      rw [if_neg (q h (Nat.le_refl _) (by omega)), i1 (fun k k1 k2 => q k (by omega) k2)]
    · rintro ⟨k, k1, k2, k3⟩
      by_cases c : I 256 (zhv x.toInt h m) = 0
      · rw [if_pos c]
      · rw [if_neg c]
        apply i2
        rcases Nat.lt_or_ge h k with w | w
        · exact ⟨k, w, k2, k3⟩
        · have : k = h := by omega
          rw [this] at k3; exact absurd k3 c
theorem m_pass16 {I : zI} {ks : Nat → Int32} {n m hs : Nat} {wd x : Int32} (h : zMv I ks n m hs wd) (hsp : ∀ k, k < n → (I 257 k = 0 ↔ zspan ks n wd k)) : ∀ (r i : Nat), i + r = n → ((∃ k, i ≤ k ∧ k < n ∧ ((ks k = x ∧ zspan ks n wd k) ∨ (ks k < x ∧ k + 1 < n ∧ x < ks (k + 1) ∧ ¬ wd < ks (k + 1) - ks k))) → zg_M_isPassed_16 X 181 (Int32.ofNat n) x (Int32.ofNat i) (zM b I J) = some (some (.int 1), zM b I J)) ∧ (¬ (∃ k, i ≤ k ∧ k < n ∧ ((ks k = x ∧ zspan ks n wd k) ∨ (ks k < x ∧ k + 1 < n ∧ x < ks (k + 1) ∧ ¬ wd < ks (k + 1) - ks k))) → zg_M_isPassed_16 X 181 (Int32.ofNat n) x (Int32.ofNat i) (zM b I J) = zg_M_isPassed_113 X 181 x 0 (zM b I J)) := by
  obtain ⟨hn, h1, h2, h3, h4⟩ := h
  intro r
  induction r with
  | zero =>
    intro i hi
    refine ⟨fun ⟨k, k1, k2, _⟩ => by omega, fun _ => ?_⟩
    rw [zg_M_isPassed_16_e, if_pos ((zn_le (by omega) (by omega)).mpr (by omega)), zg_M_isPassed_110_e]
  | succ r ih =>
    intro i hi
    have hin : i < n := by omega
    obtain ⟨i1, i2⟩ := ih (i + 1) (by omega)
    have hx1 := h1 i hin
    have s43 : zg_M_isPassed_43 X 181 (Int32.ofNat n) x (Int32.ofNat i) (zM b I J) = if ks i < x ∧ i + 1 < n ∧ x < ks (i + 1) ∧ ¬ wd < ks (i + 1) - ks i then some (some (.int 1), zM b I J) else zg_M_isPassed_16 X 181 (Int32.ofNat n) x (Int32.ofNat (i + 1)) (zM b I J) := by
      rw [zg_M_isPassed_43_e, zg_M_isPassed_104_e, zn_add1]
      by_cases c : i + 1 < n
      · rw [if_neg (fun q => absurd ((zn_le (by omega) (by omega)).mp q) (by omega)), zo181, zM_P, zp181_4, zrf, zx185 (by omega), zM_I, hx1, zo181, zrf, zx185 (by omega), h1 _ c, zo181, zrf, zx185 (by omega), zo181, zrf, zx185 (by omega), zo181, zp181_0, zrf, zw_7, h4, h1 _ c, hx1, zg_M_isPassed_102_e, zrb1]
        by_cases d1 : ks i < x
        · rw [if_neg (by rw [zi_le]; rw [zi_lt] at d1; omega)]
          by_cases d2 : x < ks (i + 1)
          · rw [if_neg (by rw [zi_le]; rw [zi_lt] at d2; omega)]
            by_cases d3 : wd < ks (i + 1) - ks i
            · rw [if_pos d3, if_neg (fun q => q.2.2.2 d3)]
            · rw [if_neg d3, if_pos ⟨d1, c, d2, d3⟩]
          · rw [if_pos (by rw [zi_le]; rw [zi_lt] at d2; omega), if_neg (fun q => d2 q.2.2.1)]
        · rw [if_pos (by rw [zi_le]; rw [zi_lt] at d1; omega), if_neg (fun q => d1 q.1)]
      · rw [if_pos ((zn_le (by omega) (by omega)).mpr (by omega)), if_neg (fun q => c q.2.1)]
    have st : zg_M_isPassed_16 X 181 (Int32.ofNat n) x (Int32.ofNat i) (zM b I J) = if (ks i = x ∧ I 257 i = 0) ∨ (ks i < x ∧ i + 1 < n ∧ x < ks (i + 1) ∧ ¬ wd < ks (i + 1) - ks i) then some (some (.int 1), zM b I J) else zg_M_isPassed_16 X 181 (Int32.ofNat n) x (Int32.ofNat (i + 1)) (zM b I J) := by
      conv => lhs; rw [zg_M_isPassed_16_e, if_neg (fun q => absurd ((zn_le (by omega) (by omega)).mp q) (by omega)), zo181, zM_P, zp181_4, zrf, zx185 (by omega), zM_I, hx1, zo181, zp181_32, zrf, zx257 (by omega), s43, zg_M_isPassed_102_e, zrb1]
      by_cases d : ks i < x ∧ i + 1 < n ∧ x < ks (i + 1) ∧ ¬ wd < ks (i + 1) - ks i
      · rw [if_pos d, if_pos (Or.inr d)]
        split
        · split <;> rfl
        · rfl
      · rw [if_neg d]
        by_cases d1 : ks i = x
        · rw [if_pos d1]
          by_cases d2 : I 257 i = 0
          · rw [if_pos d2, if_pos (Or.inl ⟨d1, d2⟩)]
          · rw [if_neg d2, if_neg (fun q => q.elim (fun q => d2 q.2) d)]
        · rw [if_neg d1, if_neg (fun q => q.elim (fun q => d1 q.1) d)]
    rw [st]
    constructor
    · rintro ⟨k, k1, k2, k3⟩
      rcases Nat.lt_or_ge i k with w | w
      · by_cases d : (ks i = x ∧ I 257 i = 0) ∨ (ks i < x ∧ i + 1 < n ∧ x < ks (i + 1) ∧ ¬ wd < ks (i + 1) - ks i)
        · rw [if_pos d]
        · rw [if_neg d, i1 ⟨k, w, k2, k3⟩]
      · have : k = i := by omega
        subst this
        rw [if_pos (k3.imp (fun q => ⟨q.1, (hsp k k2).mpr q.2⟩) id)]
    · intro q
      rw [if_neg (fun w => q ⟨i, Nat.le_refl _, hin, w.imp (fun w => ⟨w.1, (hsp i hin).mp w.2⟩) id⟩), i2 (fun ⟨k, k1, k2, k3⟩ => q ⟨k, by omega, k2, k3⟩)]
theorem m_isPassed {I : zI} {ks : Nat → Int32} {n m hs : Nat} {wd x l3 : Int32} (hh : hs ≤ 4) (hm : 0 < m ∧ m ≤ 512) (h : zMv I ks n m hs wd) (hsp : ∀ k, k < n → (I 257 k = 0 ↔ zspan ks n wd k)) : ((x < -999999999 ∨ 999999999 < x) → zg_M_isPassed_0 X 181 (Int32.ofNat n) x l3 (zM b I J) = some (some (.int 0), zM b I J)) ∧ (¬ (x < -999999999 ∨ 999999999 < x) → ((¬ l3 = 0 ∧ zinS ks n wd x) ∨ zall I 256 hs m x) → zg_M_isPassed_0 X 181 (Int32.ofNat n) x l3 (zM b I J) = some (some (.int 1), zM b I J)) ∧ (¬ (x < -999999999 ∨ 999999999 < x) → ¬ ((¬ l3 = 0 ∧ zinS ks n wd x) ∨ zall I 256 hs m x) → zg_M_isPassed_0 X 181 (Int32.ofNat n) x l3 (zM b I J) = some (some (.int 0), zM b I J)) := by
  have b1 : (-999999999 : Int32).toInt = -999999999 := rfl
  have b2 : (999999999 : Int32).toInt = 999999999 := rfl
  have bd : ¬ (x < -999999999 ∨ 999999999 < x) → -999999999 ≤ x.toInt ∧ x.toInt ≤ 999999999 := fun hx => by
    rw [zi_lt, zi_lt, b1, b2] at hx; omega
  have st : zg_M_isPassed_0 X 181 (Int32.ofNat n) x l3 (zM b I J) = if x < -999999999 ∨ 999999999 < x then some (some (.int 0), zM b I J) else if l3 = 0 then zg_M_isPassed_113 X 181 x 0 (zM b I J) else zg_M_isPassed_16 X 181 (Int32.ofNat n) x 0 (zM b I J) := by
    rw [zg_M_isPassed_0_e, m_isNumber, zci, zif01, zrb0, zg_M_isPassed_9_e, zg_M_isPassed_110_e]
  obtain ⟨p1, p2⟩ := m_pass16 X (b := b) (J := J) (x := x) h hsp n 0 (by omega)
  have ex : zinS ks n wd x ↔ ∃ k, 0 ≤ k ∧ k < n ∧ ((ks k = x ∧ zspan ks n wd k) ∨ (ks k < x ∧ k + 1 < n ∧ x < ks (k + 1) ∧ ¬ wd < ks (k + 1) - ks k)) := by
    unfold zinS
    constructor
    · rintro ⟨k, k1, k2⟩; exact ⟨k, Nat.zero_le _, k1, k2⟩
    · rintro ⟨k, -, k1, k2⟩; exact ⟨k, k1, k2⟩
  have p1' : zinS ks n wd x → zg_M_isPassed_16 X 181 (Int32.ofNat n) x 0 (zM b I J) = _ := fun q => p1 (ex.mp q)
  have p2' : ¬ zinS ks n wd x → zg_M_isPassed_16 X 181 (Int32.ofNat n) x 0 (zM b I J) = _ := fun q => p2 (fun w => q (ex.mpr w))
  refine ⟨fun hx => by rw [st, if_pos hx], fun hx hq => ?_, fun hx hq => ?_⟩
  · rw [st, if_neg hx]
    have l := m_pass113 X (b := b) (J := J) (bd hx) hh hm h.2.2.1 h.2.2.2.1 hs 0 (by omega)
    rcases Classical.em (¬ l3 = 0 ∧ zinS ks n wd x) with w | w
    · rw [if_neg w.1, p1' w.2]
    · have ha := hq.resolve_left w
      have l1 := l.1 (fun k _ k2 => ha k k2)
      by_cases c : l3 = 0
      · rw [if_pos c]; exact l1
      · rw [if_neg c, p2' (fun q => w ⟨c, q⟩)]; exact l1
  · rw [st, if_neg hx]
    have l := m_pass113 X (b := b) (J := J) (bd hx) hh hm h.2.2.1 h.2.2.2.1 hs 0 (by omega)
    have hna : ¬ zall I 256 hs m x := fun w => hq (Or.inr w)
    unfold zall at hna
    obtain ⟨k, hk⟩ := Classical.not_forall.mp hna
    obtain ⟨k1, k2⟩ := Classical.not_imp.mp hk
    have l2 := l.2 ⟨k, Nat.zero_le _, k1, Classical.not_not.mp k2⟩
    by_cases c : l3 = 0
    · rw [if_pos c]; exact l2
    · rw [if_neg c, p2' (fun q => hq (Or.inl ⟨c, q⟩))]; exact l2
end ZMSV
