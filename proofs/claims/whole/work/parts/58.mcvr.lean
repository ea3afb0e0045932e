/-! the reference covers a level -/
section ZMC
variable (X : zv_X) {b : Bool}
theorem m_common6 (M : zv_M) : ∀ (d a : Nat) (l4 l6 : Int64), l4.toInt = a → l6.toInt = d → ∃ g : Int64, zg_M_common_6 X l4 l6 M = some (some (.long g), M) ∧ g.toInt = (Nat.gcd a d : Nat) := by
  have e00 : (0 : Int64).toInt = 0 := rfl
  intro d
  induction d using Nat.strongRecOn with
  | _ d ih =>
    intro a l4 l6 h4 h6
    rcases Nat.eq_zero_or_pos d with c | c
    · subst c
      refine ⟨l4, ?_, by rw [Nat.gcd_zero_right]; exact h4⟩
      have h0 : l6 = 0 := zl_eq.mpr (by rw [h6, e00]; rfl)
      rw [zg_M_common_6_e, if_pos (by rw [lg_cmp_eq]; exact h0), zg_M_common_31_e, if_pos (by rw [lg_cmp_ge, zl_le, h4, e00]; omega), zg_M_common_44_e, zg_M_common_46_e]
    · have hne : ¬ l6 = 0 := fun q => by rw [q, e00] at h6; omega
      have hr := zrem h4 h6 c
      obtain ⟨g, g1, g2⟩ := ih (a % d) (Nat.mod_lt _ c) d l6 _ h6 hr
      refine ⟨g, ?_, by rw [g2, Nat.gcd_comm a d, Nat.gcd_rec d a, Nat.gcd_comm]⟩
      rw [zg_M_common_6_e, if_neg (by rw [lg_cmp_eq]; exact hne), if_neg hne, g1]
theorem m_comes27 {I : zI} {J : zJ} {l fr k e : Nat} {x : Nat → Int} (hl : l < 12) (hk : fr + k < 302) (he : I 255 l = Int32.ofNat e) (he20 : e ≤ 20) (hrow : ∀ i, i ≤ k → (I (189 + l) (fr + i)).toInt = x i) (hx : ∀ i j, i < j → j ≤ k → x i < x j) : ∀ (m t : Nat) (l4 l6 l8 l10 : Int64), t + m = k → zmx (zwN e) x (zpr k t) l4.toInt l6.toInt → zmx (zwM e) x (zpr k t) (-l8.toInt) l10.toInt → ∃ m4 m6 m8 m10 : Int64, zg_M_comesTo_27 X 181 (Int32.ofNat l) (Int32.ofNat (fr + k)) l4 l6 l8 l10 (Int32.ofNat (fr + t)) (zM b I J) = zg_M_comesTo_157 X 181 m4 m6 m8 m10 (zM b I J) ∧ zmx (zwN e) x (zpr k k) m4.toInt m6.toInt ∧ zmx (zwM e) x (zpr k k) (-m8.toInt) m10.toInt := by
  have e00 : (0 : Int64).toInt = 0 := rfl
  have xr : ∀ i, i ≤ k → -2147483648 ≤ x i ∧ x i ≤ 2147483647 := fun i hi => by
    have := zi_rng (I (189 + l) (fr + i))
    rw [hrow i hi] at this; exact this
  have bN : ∀ t p q, zmx (zwN e) x (zpr k t) p q → (q = 0 ∨ (-1000 ≤ p ∧ p ≤ 1000)) ∧ 0 ≤ q ∧ q ≤ 5000000000 := fun t p q h => by
    rcases h with ⟨h1, -⟩ | ⟨h1, -, i, j, h2, h3, h4⟩
    · omega
    · have hj : j ≤ k := by obtain ⟨_, h5⟩ := h2; rcases h5 with h5 | ⟨h5, -⟩ <;> omega
      have := xr i (by have := h2.1; omega)
      have := xr j hj
      have := h2.1
      unfold zwN at h3
      omega
  have bM : ∀ t p q, zmx (zwM e) x (zpr k t) p q → (q = 0 ∨ (-1000 ≤ p ∧ p ≤ 1000)) ∧ 0 ≤ q ∧ q ≤ 5000000000 := fun t p q h => by
    rcases h with ⟨h1, -⟩ | ⟨h1, -, i, j, h2, h3, h4⟩
    · omega
    · have hj : j ≤ k := by obtain ⟨_, h5⟩ := h2; rcases h5 with h5 | ⟨h5, -⟩ <;> omega
      have := xr i (by have := h2.1; omega)
      have := xr j hj
      have := h2.1
      unfold zwM at h3
      omega
  intro m
  induction m with
  | zero =>
    intro t l4 l6 l8 l10 ht h1 h2
    have : t = k := by omega
    subst this
    refine ⟨l4, l6, l8, l10, ?_, h1, h2⟩
    rw [zg_M_comesTo_27_e, if_pos ((zn_le (by omega) (by omega)).mpr (by omega))]
  | succ m ih =>
    intro t l4 l6 l8 l10 ht h1 h2
    have b1 := bN _ _ _ h1
    have b2 := bM _ _ _ h2
    have s1 := zmx_step hx (show t < k by omega) h1
    have s2 := zmx_step hx (show t < k by omega) h2
    have rk := hrow k (Nat.le_refl _)
    have rt := hrow t (by omega)
    have xk := xr k (Nat.le_refl _)
    have xt := xr t (by omega)
    have hD := hx t k (by omega) (Nat.le_refl _)
    have ew : (Int32.toInt64 (I (189 + l) (fr + k)) - Int32.toInt64 (I (189 + l) (fr + t))).toInt = x k - x t := by rw [zrun, rk, rt]
    have es : (Int32.toInt64 (Int32.ofNat (fr + k) - Int32.ofNat (fr + t))).toInt = (k : Int) - t := by
      rw [Int32.toInt_toInt64, zn_sub (by omega), zn_int (by omega)]; omega
    have ee : (2 * Int32.toInt64 (Int32.ofNat e)).toInt = 2 * e := by
      have e2 : (2 : Int64).toInt = 2 := rfl
      rw [zl_mul, e2, Int32.toInt_toInt64, zn_int (by omega)]
      · rw [e2, Int32.toInt_toInt64, zn_int (by omega)]; omega
      · rw [e2, Int32.toInt_toInt64, zn_int (by omega)]; omega
    have elo : (Int32.toInt64 (Int32.ofNat (fr + k) - Int32.ofNat (fr + t)) - 2 * Int32.toInt64 (Int32.ofNat e)).toInt = zwN e t k := by
      unfold zwN
      rw [zl_sub, es, ee]
      · rw [es, ee]; omega
      · rw [es, ee]; omega
    have ehi : (Int32.toInt64 (Int32.ofNat (fr + k) - Int32.ofNat (fr + t)) + 2 * Int32.toInt64 (Int32.ofNat e)).toInt = -zwM e t k := by
      unfold zwM
      rw [zl_add, es, ee]
      · omega
      · rw [es, ee]; omega
      · rw [es, ee]; omega
    have wN : -1000 ≤ zwN e t k ∧ zwN e t k ≤ 1000 := by unfold zwN; omega
    have wM : -1000 ≤ zwM e t k ∧ zwM e t k ≤ 1000 := by unfold zwM; omega
    generalize hW : Int32.toInt64 (I (189 + l) (fr + k)) - Int32.toInt64 (I (189 + l) (fr + t)) = W at *
    generalize hLo : Int32.toInt64 (Int32.ofNat (fr + k) - Int32.ofNat (fr + t)) - 2 * Int32.toInt64 (Int32.ofNat e) = Lo at *
    generalize hHi : Int32.toInt64 (Int32.ofNat (fr + k) - Int32.ofNat (fr + t)) + 2 * Int32.toInt64 (Int32.ofNat e) = Hi at *
    have key : ∀ r, zg_M_comesTo_27 X 181 (Int32.ofNat l) (Int32.ofNat (fr + k)) (if l6.toInt = 0 ∨ l4.toInt * (x k - x t) < zwN e t k * l6.toInt then Lo else l4) (if l6.toInt = 0 ∨ l4.toInt * (x k - x t) < zwN e t k * l6.toInt then W else l6) (if l10.toInt = 0 ∨ -l8.toInt * (x k - x t) < zwM e t k * l10.toInt then Hi else l8) (if l10.toInt = 0 ∨ -l8.toInt * (x k - x t) < zwM e t k * l10.toInt then W else l10) (Int32.ofNat (fr + (t + 1))) (zM b I J) = r → zg_M_comesTo_27 X 181 (Int32.ofNat l) (Int32.ofNat (fr + k)) l4 l6 l8 l10 (Int32.ofNat (fr + t)) (zM b I J) = r := fun r hr => by
      rw [← hr]
      conv => lhs; rw [zg_M_comesTo_27_e, if_neg (fun q => absurd ((zn_le (by omega) (by omega)).mp q) (by omega))]
      simp only [zM_I, zM_J, zM_P, zM_wI, zM_wL, zrf, zo181, zp181_17, zp181_24, zmt188 hl, zmx189 hl (show fr + k < 302 by omega), zmx189 hl (show fr + t < 302 by omega), zx255 hl, he, hW, hLo, hHi]
      have z6 : (lg_cmp l6 0 = 0) ↔ l6.toInt = 0 := by rw [lg_cmp_eq, zl_eq, e00]
      have z10 : (lg_cmp l10 0 = 0) ↔ l10.toInt = 0 := by rw [lg_cmp_eq, zl_eq, e00]
      have inner : ∀ p q, zg_M_comesTo_122 X 181 (Int32.ofNat l) (Int32.ofNat (fr + k)) p q l8 l10 (Int32.ofNat (fr + t)) W Hi (zM b I J) = zg_M_comesTo_27 X 181 (Int32.ofNat l) (Int32.ofNat (fr + k)) p q (if l10.toInt = 0 ∨ -l8.toInt * (x k - x t) < zwM e t k * l10.toInt then Hi else l8) (if l10.toInt = 0 ∨ -l8.toInt * (x k - x t) < zwM e t k * l10.toInt then W else l10) (Int32.ofNat (fr + (t + 1))) (zM b I J) := fun p q => by
        rw [zg_M_comesTo_122_e, zg_M_comesTo_143_e, zg_M_comesTo_151_e, zg_M_comesTo_151_e, zn_add1, show fr + t + 1 = fr + (t + 1) by omega]
        by_cases c : l10.toInt = 0
        · rw [if_pos (z10.mpr c), if_pos (Or.inl c), if_pos (Or.inl c)]
        · have m1 : (Hi * l10).toInt = -zwM e t k * l10.toInt := by
            rw [zl_mulB, ehi] <;> first | rw [ehi]; omega | omega
          have m2 : (l8 * W).toInt = l8.toInt * (x k - x t) := by
            rw [zl_mulB, ew] <;> first | rw [ew]; omega | omega
          rw [if_neg (fun q => c (z10.mp q))]
          by_cases d : -l8.toInt * (x k - x t) < zwM e t k * l10.toInt
          · rw [if_neg (by rw [lg_cmp_ge, zl_le, m1, m2]; grind), if_pos (Or.inr d), if_pos (Or.inr d)]
          · rw [if_pos (by rw [lg_cmp_ge, zl_le, m1, m2]; grind), if_neg (by omega), if_neg (by omega)]
      by_cases c : l6.toInt = 0
      · rw [if_pos (z6.mpr c), if_pos (Or.inl c), if_pos (Or.inl c), zg_M_comesTo_114_e, inner]
      · have m1 : (Lo * l6).toInt = zwN e t k * l6.toInt := by
          rw [zl_mulB, elo] <;> first | rw [elo]; omega | omega
        have m2 : (l4 * W).toInt = l4.toInt * (x k - x t) := by
          rw [zl_mulB, ew] <;> first | rw [ew]; omega | omega
        rw [if_neg (fun q => c (z6.mp q))]
        by_cases d : l4.toInt * (x k - x t) < zwN e t k * l6.toInt
        · rw [if_neg (by rw [lg_cmp_le, zl_le, m1, m2]; omega), if_pos (Or.inr d), if_pos (Or.inr d), zg_M_comesTo_114_e, inner]
        · rw [if_pos (by rw [lg_cmp_le, zl_le, m1, m2]; omega), if_neg (by omega), if_neg (by omega), inner]
    have n1 : zmx (zwN e) x (zpr k (t + 1)) (if l6.toInt = 0 ∨ l4.toInt * (x k - x t) < zwN e t k * l6.toInt then Lo else l4).toInt (if l6.toInt = 0 ∨ l4.toInt * (x k - x t) < zwN e t k * l6.toInt then W else l6).toInt := by
      by_cases c : l6.toInt = 0 ∨ l4.toInt * (x k - x t) < zwN e t k * l6.toInt
      · rw [if_pos c, if_pos c, elo, ew]; exact s1.1 c
      · rw [if_neg c, if_neg c]; exact s1.2 c
    have n2 : zmx (zwM e) x (zpr k (t + 1)) (-(if l10.toInt = 0 ∨ -l8.toInt * (x k - x t) < zwM e t k * l10.toInt then Hi else l8).toInt) (if l10.toInt = 0 ∨ -l8.toInt * (x k - x t) < zwM e t k * l10.toInt then W else l10).toInt := by
      by_cases c : l10.toInt = 0 ∨ -l8.toInt * (x k - x t) < zwM e t k * l10.toInt
      · rw [if_pos c, if_pos c, ehi, ew, Int.neg_neg]; exact s2.1 c
      · rw [if_neg c, if_neg c]; exact s2.2 c
    obtain ⟨m4, m6, m8, m10, g1, g2, g3⟩ := ih (t + 1) _ _ _ _ (by omega) n1 n2
    exact ⟨m4, m6, m8, m10, key _ g1, g2, g3⟩
/-- the fields hold the slopes of all pairs of the first k places -/
def zNM (J : zJ) (x : Nat → Int) (e k : Nat) : Prop := zmx (zwN e) x (zpr k 0) (J 181 26).toInt (J 181 27).toInt ∧ zmx (zwM e) x (zpr k 0) (-(J 181 28).toInt) (J 181 29).toInt
theorem zpr_next {k : Nat} : zpr k k = zpr (k + 1) 0 := by
  funext i j
  apply propext
  unfold zpr
  constructor
  · rintro ⟨h1, h2 | ⟨h2, h3⟩⟩
    · exact ⟨h1, Or.inl (by omega)⟩
    · exact ⟨h1, Or.inl (by omega)⟩
  · rintro ⟨h1, h2 | ⟨h2, h3⟩⟩
    · rcases Nat.lt_or_ge j k with c | c
      · exact ⟨h1, Or.inl c⟩
      · exact ⟨h1, Or.inr ⟨by omega, by omega⟩⟩
    · omega
theorem m_comesTo {I : zI} {J : zJ} {l fr k e : Nat} {x : Nat → Int} (hl : l < 12) (hk1 : 1 ≤ k) (hk : fr + k < 302) (he : I 255 l = Int32.ofNat e) (he20 : e ≤ 20) (hrow : ∀ i, i ≤ k → (I (189 + l) (fr + i)).toInt = x i) (hx : ∀ i j, i < j → j ≤ k → x i < x j) (hJ : zNM J x e k) : (¬ zfe x e k ∧ zg_M_comesTo_0 X 181 (Int32.ofNat l) (Int32.ofNat fr) (Int32.ofNat (fr + k)) (zM b I J) = some (some (.int 0), zM b I J)) ∨ (zfe x e k ∧ ∃ J', zg_M_comesTo_0 X 181 (Int32.ofNat l) (Int32.ofNat fr) (Int32.ofNat (fr + k)) (zM b I J) = some (some (.int 1), zM b I J') ∧ zNM J' x e (k + 1) ∧ ∀ a, a ≠ 181 → J' a = J a) := by
  have e00 : (0 : Int64).toInt = 0 := rfl
  obtain ⟨m4, m6, m8, m10, g1, g2, g3⟩ := m_comes27 X (b := b) (J := J) hl hk he he20 hrow hx k 0 _ _ _ _ (by omega) hJ.1 hJ.2
  obtain ⟨q1, q2, hz⟩ := zmx_fe hk1 hx g2 g3
  have xr : ∀ i, i ≤ k → -2147483648 ≤ x i ∧ x i ≤ 2147483647 := fun i hi => by
    have := zi_rng (I (189 + l) (fr + i))
    rw [hrow i hi] at this; exact this
  have bN : -1000 ≤ m4.toInt ∧ m4.toInt ≤ 1000 ∧ m6.toInt ≤ 5000000000 := by
    rcases g2 with ⟨h1, -⟩ | ⟨h1, -, i, j, h2, h3, h4⟩
    · omega
    · have hj : j ≤ k := by obtain ⟨_, h5⟩ := h2; rcases h5 with h5 | ⟨h5, -⟩ <;> omega
      have := xr i (by have := h2.1; omega)
      have := xr j hj
      have := h2.1
      unfold zwN at h3
      omega
  have bM : -1000 ≤ m8.toInt ∧ m8.toInt ≤ 1000 ∧ m10.toInt ≤ 5000000000 := by
    rcases g3 with ⟨h1, -⟩ | ⟨h1, -, i, j, h2, h3, h4⟩
    · omega
    · have hj : j ≤ k := by obtain ⟨_, h5⟩ := h2; rcases h5 with h5 | ⟨h5, -⟩ <;> omega
      have := xr i (by have := h2.1; omega)
      have := xr j hj
      have := h2.1
      unfold zwM at h3
      omega
  have e1 : (m4 * m10).toInt = m4.toInt * m10.toInt := zl_mulB (by omega) (by omega) (by omega) (by omega)
  have e2 : (m8 * m6).toInt = m8.toInt * m6.toInt := zl_mulB (by omega) (by omega) (by omega) (by omega)
  have start : zg_M_comesTo_0 X 181 (Int32.ofNat l) (Int32.ofNat fr) (Int32.ofNat (fr + k)) (zM b I J) = zg_M_comesTo_157 X 181 m4 m6 m8 m10 (zM b I J) := by
    rw [zg_M_comesTo_0_e, zo181, zg_M_comesTo_0x3_e, zo181, zg_M_comesTo_0x6_e, zo181, zg_M_comesTo_0x9_e, zo181, zg_M_comesTo_0x12_e, zM_J]
    exact g1
  rw [start, zg_M_comesTo_157_e, if_neg (by rw [lg_cmp_le, zl_le, e00]; omega)]
  by_cases c : zfe x e k
  · refine Or.inr ⟨c, zsJ (zsJ (zsJ (zsJ J 181 26 m4) 181 27 m6) 181 28 m8) 181 29 m10, ?_, ?_, fun a ha => by rw [zsJ_ne ha, zsJ_ne ha, zsJ_ne ha, zsJ_ne ha]⟩
    · rw [if_pos (by rw [lg_cmp_le, zl_le, e1, e2]; have := hz.mp c; grind), zg_M_comesTo_180_e]
      simp only [zM_I, zM_J, zM_P, zM_wI, zM_wL, zrf, zo181, zrb1]
    · unfold zNM
      simp (disch := omega) only [zsJ_off, zsJ_self]
      rw [← zpr_next]
      exact ⟨g2, g3⟩
  · refine Or.inl ⟨c, ?_⟩
    rw [if_neg (by rw [lg_cmp_le, zl_le, e1, e2]; intro q; exact c (hz.mpr (by grind))), zrb0]
theorem m_cov33 {l fr n e : Nat} {x : Nat → Int} {I : zI} (hl : l < 12) (hn : n ≤ 301) (hkn : I 253 l = Int32.ofNat n) (he : I 255 l = Int32.ofNat e) (he20 : e ≤ 20) (hrow : ∀ i, fr + i < n → (I (189 + l) (fr + i)).toInt = x i) (hx : ∀ i j, i < j → fr + j < n → x i < x j) : ∀ (m k : Nat) (J : zJ), fr + k + m = n → 1 ≤ k → zfe x e (k - 1) → zNM J x e k → ∃ J' k', zg_M_covers_33 X 181 (Int32.ofNat l) (Int32.ofNat fr) (Int32.ofNat (fr + k)) (zM b I J) = zg_M_covers_59 X 181 (Int32.ofNat l) (Int32.ofNat fr) (Int32.ofNat (fr + k')) (zM b I J') ∧ 1 ≤ k' ∧ fr + k' ≤ n ∧ zfe x e (k' - 1) ∧ (fr + k' = n ∨ ¬ zfe x e k') ∧ zNM J' x e k' ∧ ∀ a, a ≠ 181 → J' a = J a := by
  intro m
  induction m with
  | zero =>
    intro k J hk hk1 hz hJ
    refine ⟨J, k, ?_, hk1, by omega, hz, Or.inl (by omega), hJ, fun a _ => rfl⟩
    rw [zg_M_covers_33_e]
    simp only [zM_I, zM_J, zM_P, zM_wI, zM_wL, zrf, zo181, zp181_22, zx253 hl, hkn]
    rw [if_pos ((zn_le (by omega) (by omega)).mpr (by omega))]
  | succ m ih =>
    intro k J hk hk1 hz hJ
    have hc := m_comesTo X (b := b) (J := J) hl hk1 (by omega) he he20 (fun i hi => hrow i (by omega)) (fun i j h1 h2 => hx i j h1 (by omega)) hJ
    have st : zg_M_covers_33 X 181 (Int32.ofNat l) (Int32.ofNat fr) (Int32.ofNat (fr + k)) (zM b I J) = zv_ci (zg_M_comesTo_0 X 181 (Int32.ofNat l) (Int32.ofNat fr) (Int32.ofNat (fr + k)) (zM b I J)) (fun v4 M3 => if v4 = 0 then zg_M_covers_59 X 181 (Int32.ofNat l) (Int32.ofNat fr) (Int32.ofNat (fr + k)) M3 else zg_M_covers_33 X 181 (Int32.ofNat l) (Int32.ofNat fr) (Int32.ofNat (fr + k) + 1) M3) := by
      conv => lhs; rw [zg_M_covers_33_e]
      simp only [zM_I, zM_J, zM_P, zM_wI, zM_wL, zrf, zo181, zp181_22, zx253 hl, hkn]
      rw [if_neg (fun q => absurd ((zn_le (by omega) (by omega)).mp q) (by omega))]
    rcases hc with ⟨c1, c2⟩ | ⟨c1, J1, c2, c3, c4⟩
    · refine ⟨J, k, ?_, hk1, by omega, hz, Or.inr c1, hJ, fun a _ => rfl⟩
      rw [st, c2, zci, if_pos rfl]
    · obtain ⟨J', k', g1, g2, g3, g4, g5, g6, g7⟩ := ih (k + 1) J1 (by omega) (by omega) (by simpa using c1) c3
      refine ⟨J', k', ?_, g2, g3, g4, g5, g6, fun a ha => by rw [g7 a ha, c4 a ha]⟩
      rw [st, c2, zci, if_neg (by decide), zn_add1, show fr + k + 1 = fr + (k + 1) by omega, g1]
/-- the data of the first K pieces of a level of the reference -/
def zMPc (I : zI) (J : zJ) (l : Nat) (f : Nat → Int) (n e K : Nat) : Prop := ∀ k, k < K → I (202 + l) k = Int32.ofNat (zF f n e k) ∧ I (215 + l) k = Int32.ofNat (zF f n e (k + 1) - 1) ∧ (J (228 + l) k).toInt = zPk f n e k ∧ (J (241 + l) k).toInt = zQk f n e k ∧ (0 ≤ zPk f n e k ∧ zPk f n e k ≤ 400 ∧ 0 < zQk f n e k ∧ zQk f n e k ≤ 2000000000)
def zML (I : zI) (J : zJ) (l : Nat) (f : Nat → Int) (n e : Nat) : Prop := I 253 l = Int32.ofNat n ∧ I 255 l = Int32.ofNat e ∧ I 254 l = Int32.ofNat (zNp f n e) ∧ (∀ i, i < n → (I (189 + l) i).toInt = f i) ∧ zMPc I J l f n e (zNp f n e)
theorem m_cov59 {I : zI} {J : zJ} {l fr k K e : Nat} {x : Nat → Int} (hl : l < 12) (hK : K < 302) (hk : 1 ≤ k) (hkf : fr + k ≤ 301) (hp : I 254 l = Int32.ofNat K) (hx : ∀ i j, i < j → j ≤ k - 1 → x i < x j) (hxb : ∀ i, -999999999 ≤ x i ∧ x i ≤ 999999999) (hJ : zNM J x e k) : ∃ P Q : Int64, zg_M_covers_59 X 181 (Int32.ofNat l) (Int32.ofNat fr) (Int32.ofNat (fr + k)) (zM b I J) = zg_M_covers_9 X 181 (Int32.ofNat l) (Int32.ofNat (fr + k)) (zM b (zst (zst (zst I (202 + l) K (Int32.ofNat fr)) (215 + l) K (Int32.ofNat (fr + k - 1))) 254 l (Int32.ofNat (K + 1))) (zsJ (zsJ J (228 + l) K P) (241 + l) K Q)) ∧ zred x e (k - 1) P.toInt Q.toInt := by
  have e00 : (0 : Int64).toInt = 0 := rfl
  have hJ1 := hJ.1
  rw [show k = k - 1 + 1 by omega] at hJ1
  obtain ⟨r1, r2⟩ := zmx_red hJ1 hx
  have z27 : (lg_cmp (J 181 27) 0 = 0) ↔ (J 181 27).toInt = 0 := by rw [lg_cmp_eq, zl_eq, e00]
  have fin : ∀ (P Q c : Int64) (fl : Int32), (fl = 0 → zg_M_covers_153 X 181 (Int32.ofNat l) (Int32.ofNat (fr + k)) (Int32.ofNat K) fl c (Int32.ofNat K) (228 + l) (zM b (zst (zst I (202 + l) K (Int32.ofNat fr)) (215 + l) K (Int32.ofNat (fr + k - 1))) J) = zg_M_covers_160 X 181 (Int32.ofNat l) (Int32.ofNat (fr + k)) (Int32.ofNat K) fl c P (Int32.ofNat K) (228 + l) (zM b (zst (zst I (202 + l) K (Int32.ofNat fr)) (215 + l) K (Int32.ofNat (fr + k - 1))) J)) → (fl ≠ 0 → P = 0) → (fl = 0 → zg_M_covers_178 X 181 (Int32.ofNat l) (Int32.ofNat (fr + k)) c (Int32.ofNat K) (241 + l) (zM b (zst (zst I (202 + l) K (Int32.ofNat fr)) (215 + l) K (Int32.ofNat (fr + k - 1))) (zsJ J (228 + l) K P)) = zg_M_covers_185 X 181 (Int32.ofNat l) (Int32.ofNat (fr + k)) Q (Int32.ofNat K) (241 + l) (zM b (zst (zst I (202 + l) K (Int32.ofNat fr)) (215 + l) K (Int32.ofNat (fr + k - 1))) (zsJ J (228 + l) K P))) → (fl ≠ 0 → Q = 1) → zg_M_covers_134 X 181 (Int32.ofNat l) (Int32.ofNat (fr + k)) (Int32.ofNat K) fl c (zM b (zst (zst I (202 + l) K (Int32.ofNat fr)) (215 + l) K (Int32.ofNat (fr + k - 1))) J) = zg_M_covers_9 X 181 (Int32.ofNat l) (Int32.ofNat (fr + k)) (zM b (zst (zst (zst I (202 + l) K (Int32.ofNat fr)) (215 + l) K (Int32.ofNat (fr + k - 1))) 254 l (Int32.ofNat (K + 1))) (zsJ (zsJ J (228 + l) K P) (241 + l) K Q)) := fun P Q c fl h1 h2 h3 h4 => by
    have e134 : zg_M_covers_134 X 181 (Int32.ofNat l) (Int32.ofNat (fr + k)) (Int32.ofNat K) fl c (zM b (zst (zst I (202 + l) K (Int32.ofNat fr)) (215 + l) K (Int32.ofNat (fr + k - 1))) J) = zg_M_covers_160 X 181 (Int32.ofNat l) (Int32.ofNat (fr + k)) (Int32.ofNat K) fl c P (Int32.ofNat K) (228 + l) (zM b (zst (zst I (202 + l) K (Int32.ofNat fr)) (215 + l) K (Int32.ofNat (fr + k - 1))) J) := by
      rw [zg_M_covers_134_e, zo181, zM_P, zp181_20, zrf, zmt227 hl]
      by_cases d : fl = 0
      · rw [if_pos d, h1 d]
      · rw [if_neg d, h2 d]
    have e160 : zg_M_covers_160 X 181 (Int32.ofNat l) (Int32.ofNat (fr + k)) (Int32.ofNat K) fl c P (Int32.ofNat K) (228 + l) (zM b (zst (zst I (202 + l) K (Int32.ofNat fr)) (215 + l) K (Int32.ofNat (fr + k - 1))) J) = zg_M_covers_185 X 181 (Int32.ofNat l) (Int32.ofNat (fr + k)) Q (Int32.ofNat K) (241 + l) (zM b (zst (zst I (202 + l) K (Int32.ofNat fr)) (215 + l) K (Int32.ofNat (fr + k - 1))) (zsJ J (228 + l) K P)) := by
      rw [zg_M_covers_160_e, zmx228 hl hK, zM_wL, zo181, zM_P, zp181_21, zrf, zmt240 hl]
      by_cases d : fl = 0
      · rw [if_pos d, h3 d]
      · rw [if_neg d, h4 d]
    rw [e134, e160, zg_M_covers_185_e, zmx241 hl hK, zM_wL, zo181, zM_P, zp181_23, zrf, zx254 hl, zx254 hl, zM_wI, zM_I, zst_ne (by omega), zst_ne (by omega), hp, zn_add1]
  have start : zg_M_covers_59 X 181 (Int32.ofNat l) (Int32.ofNat fr) (Int32.ofNat (fr + k)) (zM b I J) = if (J 181 27).toInt = 0 ∨ (J 181 26).toInt ≤ 0 then zg_M_covers_134 X 181 (Int32.ofNat l) (Int32.ofNat (fr + k)) (Int32.ofNat K) 1 1 (zM b (zst (zst I (202 + l) K (Int32.ofNat fr)) (215 + l) K (Int32.ofNat (fr + k - 1))) J) else zg_M_covers_123 X 181 (Int32.ofNat l) (Int32.ofNat (fr + k)) (Int32.ofNat K) 0 (zM b (zst (zst I (202 + l) K (Int32.ofNat fr)) (215 + l) K (Int32.ofNat (fr + k - 1))) J) := by
    rw [zg_M_covers_59_e]
    simp only [zM_I, zM_J, zM_P, zM_wI, zM_wL, zrf, zo181, zp181_23, zp181_18, zp181_19, zx254 hl, hp, zmt201 hl, zmx202 hl hK, zmt214 hl, zmx215 hl hK, zn_sub1 (show 1 ≤ fr + k by omega), zg_M_covers_107_e, zg_M_covers_111_e, zg_M_covers_112_e]
    by_cases c : (J 181 27).toInt = 0
    · rw [if_pos (z27.mpr c), if_pos (Or.inl c), if_neg (by decide)]
    · rw [if_neg (fun q => c (z27.mp q))]
      by_cases d : (J 181 26).toInt ≤ 0
      · rw [if_neg (by rw [lg_cmp_gt, zl_lt, e00]; omega), if_pos (Or.inr d), if_neg (by decide)]
      · rw [if_pos (by rw [lg_cmp_gt, zl_lt, e00]; omega), if_true, if_neg (by omega)]
  rw [start]
  by_cases c : (J 181 27).toInt = 0 ∨ (J 181 26).toInt ≤ 0
  · refine ⟨0, 1, ?_, r1 c⟩
    rw [if_pos c]
    exact fin 0 1 1 1 (fun h => absurd h (by decide)) (fun _ => rfl) (fun h => absurd h (by decide)) (fun _ => rfl)
  · have hr := r2 c
    have hq : 0 < (J 181 27).toInt := by
      rcases hJ.1 with ⟨h1, -⟩ | ⟨h1, -⟩
      · exact absurd (Or.inl h1) c
      · exact h1
    obtain ⟨g, g1, g2⟩ := m_common6 X (zM b (zst (zst I (202 + l) K (Int32.ofNat fr)) (215 + l) K (Int32.ofNat (fr + k - 1))) J) (J 181 27).toInt.toNat (J 181 26).toInt.toNat (J 181 26) (J 181 27) (by omega) (by omega)
    have hgp : 0 < Nat.gcd (J 181 26).toInt.toNat (J 181 27).toInt.toNat := Nat.gcd_pos_of_pos_right _ (by omega)
    have hg0 : ¬ g = 0 := fun h => by rw [h, e00] at g2; omega
    have hg1 : g ≠ -1 := fun h => by rw [h] at g2; have : (-1 : Int64).toInt = -1 := rfl; omega
    have eP : ((J 181 26) / g).toInt = (J 181 26).toInt / (Nat.gcd (J 181 26).toInt.toNat (J 181 27).toInt.toNat : Nat) := by
      rw [Int64.toInt_div_of_ne_right _ g hg1, g2, Int.tdiv_eq_ediv_of_nonneg (by omega)]
    have eQ : ((J 181 27) / g).toInt = (J 181 27).toInt / (Nat.gcd (J 181 26).toInt.toNat (J 181 27).toInt.toNat : Nat) := by
      rw [Int64.toInt_div_of_ne_right _ g hg1, g2, Int.tdiv_eq_ediv_of_nonneg (by omega)]
    refine ⟨(J 181 26) / g, (J 181 27) / g, ?_, by rw [eP, eQ]; exact hr⟩
    rw [if_neg c, zg_M_covers_123_e, zo181, zo181, zM_J, zg_M_common_0_e, g1, zcl]
    refine fin _ _ g 0 (fun _ => ?_) (fun h => absurd rfl h) (fun _ => ?_) (fun h => absurd rfl h)
    · rw [zg_M_covers_153_e, zo181, if_neg hg0, zM_J]
    · rw [zg_M_covers_178_e, zo181, if_neg hg0, zM_J, zsJ_ne (by omega)]
theorem m_cov9 {l n e : Nat} {f : Nat → Int} (hl : l < 12) (hn : n ≤ 301) (he20 : e ≤ 20) (hf : zfb f) (hu : zupto f n) : ∀ (m K : Nat) (I : zI) (J : zJ), K + m = zNp f n e → I 253 l = Int32.ofNat n → I 255 l = Int32.ofNat e → I 254 l = Int32.ofNat K → (∀ i, i < n → (I (189 + l) i).toInt = f i) → zMPc I J l f n e K → ∃ I' J', zg_M_covers_9 X 181 (Int32.ofNat l) (Int32.ofNat (zF f n e K)) (zM b I J) = some (none, zM b I' J') ∧ zML I' J' l f n e ∧ (∀ a, a ≠ 254 → a ≠ 202 + l → a ≠ 215 + l → I' a = I a) ∧ (∀ j, j ≠ l → I' 254 j = I 254 j) ∧ (∀ a, a ≠ 181 → a ≠ 228 + l → a ≠ 241 + l → J' a = J a) := by
  have hNp := zNp_spec f n e
  have hhalf := zNp_half (e := e) hu
  intro m
  induction m with
  | zero =>
    intro K I J hK h1 h2 h3 hr hp
    have : K = zNp f n e := by omega
    subst this
    refine ⟨I, J, ?_, ⟨h1, h2, h3, hr, hp⟩, fun a _ _ _ => rfl, fun j _ => rfl, fun a _ _ _ => rfl⟩
    rw [zg_M_covers_9_e, hNp.1]
    simp only [zM_I, zM_J, zM_P, zM_wI, zM_wL, zrf, zo181, zp181_22, zx253 hl, h1]
    rw [if_pos (by rw [zi_le]; exact Int.le_refl _), zg_M_covers_201_e]
  | succ m ih =>
    intro K I J hK h1 h2 h3 hr hp
    have hFK := hNp.2 K (by omega)
    obtain ⟨J1, k, r1, r2, r3, r4, r5, r6, r7⟩ := m_cov33 X (b := b) (x := fun i => f (zF f n e K + i)) (I := I) hl hn h1 h2 he20 (fun i hi => hr _ hi) (fun i j h1 h2 => hu _ _ (by omega) h2) (n - zF f n e K - 1) 1 (zsJ (zsJ J 181 27 0) 181 29 0) (by omega) (Nat.le_refl _) (zfe0 _ _) (by
      have e00 : (0 : Int64).toInt = 0 := rfl
      have no : ∀ i j, ¬ zpr 1 0 i j := fun i j hp => by obtain ⟨a1, a2⟩ := hp; omega
      unfold zNM
      simp (disch := omega) only [zsJ_off, zsJ_self, e00]
      exact ⟨Or.inl ⟨rfl, no⟩, Or.inl ⟨rfl, no⟩⟩)
    have hlast : zrch (fun i => f (zF f n e K + i)) e (n - zF f n e K) = k - 1 := zrch_uniq (by omega) r4 (r5.elim (fun h => Or.inl (by omega)) (fun h => Or.inr (by rw [show k - 1 + 1 = k by omega]; exact h)))
    have hF1 : zF f n e (K + 1) = zF f n e K + k := by rw [zF_succ hFK, hlast]; omega
    obtain ⟨P, Q, k1, k2⟩ := m_cov59 X (b := b) (I := I) (J := J1) (K := K) (fr := zF f n e K) (k := k) (e := e) (x := fun i => f (zF f n e K + i)) hl (by omega) r2 (by omega) h3 (fun i j h1 h2 => hu _ _ (by omega) (by omega)) (fun i => hf _) r6
    obtain ⟨v1, v2⟩ := zred_val k2
    have hbd := zred_bd2 k2 (by omega) (fun i => hf _)
    have ePk : zPk f n e K = P.toInt := by unfold zPk; rw [hF1, show zF f n e K + k - zF f n e K - 1 = k - 1 by omega]; exact v1
    have eQk : zQk f n e K = Q.toInt := by unfold zQk; rw [hF1, show zF f n e K + k - zF f n e K - 1 = k - 1 by omega]; exact v2
    have gJ : ∀ a, a ≠ 181 → J1 a = J a := fun a ha => by rw [r7 a ha, zsJ_ne ha, zsJ_ne ha]
    obtain ⟨I', J', f1, f2, f3, f4, f5⟩ := ih (K + 1) (zst (zst (zst I (202 + l) K (Int32.ofNat (zF f n e K))) (215 + l) K (Int32.ofNat (zF f n e K + k - 1))) 254 l (Int32.ofNat (K + 1))) (zsJ (zsJ J1 (228 + l) K P) (241 + l) K Q) (by omega) (by
        rw [zst_ne (by omega), zst_ne (by omega), zst_ne (by omega)]; exact h1) (by
        rw [zst_ne (by omega), zst_ne (by omega), zst_ne (by omega)]; exact h2) zst_self (fun i hi => by
        rw [zst_ne (by omega), zst_ne (by omega), zst_ne (by omega)]; exact hr i hi) (fun k' hk' => by
        rcases Nat.lt_or_ge k' K with c | c
        · obtain ⟨q1, q2, q3, q4, q5⟩ := hp k' c
          simp (disch := omega) only [zst_ne, zst_off, zsJ_ne, zsJ_off]
          rw [gJ _ (by omega), gJ _ (by omega)]
          exact ⟨q1, q2, q3, q4, q5⟩
        · have : k' = K := by omega
          subst this
          simp (disch := omega) only [zst_ne, zst_self, zsJ_ne, zsJ_self]
          rw [ePk, eQk, hF1]
          exact ⟨trivial, rfl, rfl, rfl, hbd⟩)
    refine ⟨I', J', ?_, f2, fun a a1 a2 a3 => by rw [f3 a a1 a2 a3, zst_ne a1, zst_ne a3, zst_ne a2], fun j hj => by rw [f4 j hj, zst_off hj, zst_ne (by omega), zst_ne (by omega)], fun a a1 a2 a3 => by rw [f5 a a1 a2 a3, zsJ_ne a3, zsJ_ne a2, gJ a a1]⟩
    rw [← f1, zg_M_covers_9_e]
    simp only [zM_I, zM_J, zM_P, zM_wI, zM_wL, zrf, zo181, zp181_22, zx253 hl, h1]
    rw [if_neg (fun q => absurd ((zn_le (by omega) (by omega)).mp q) (by omega)), zn_add1, r1, k1, hF1]
theorem m_covers {I : zI} {J : zJ} {l n e : Nat} {f : Nat → Int} (hl : l < 12) (hn : n ≤ 301) (he20 : e ≤ 20) (hf : zfb f) (hu : zupto f n) (h1 : I 253 l = Int32.ofNat n) (h2 : I 255 l = Int32.ofNat e) (hr : ∀ i, i < n → (I (189 + l) i).toInt = f i) : ∃ I' J', zg_M_covers_0 X 181 (Int32.ofNat l) (zM b I J) = some (none, zM b I' J') ∧ zML I' J' l f n e ∧ (∀ a, a ≠ 254 → a ≠ 202 + l → a ≠ 215 + l → I' a = I a) ∧ (∀ j, j ≠ l → I' 254 j = I 254 j) ∧ (∀ a, a ≠ 181 → a ≠ 228 + l → a ≠ 241 + l → J' a = J a) := by
  obtain ⟨I', J', f1, f2, f3, f4, f5⟩ := m_cov9 X (b := b) hl hn he20 hf hu (zNp f n e) 0 (zst I 254 l 0) J (by omega) (by rw [zst_ne (by decide)]; exact h1) (by rw [zst_ne (by decide)]; exact h2) zst_self (fun i hi => by rw [zst_ne (by omega)]; exact hr i hi) (fun k hk => by omega)
  refine ⟨I', J', ?_, f2, fun a a1 a2 a3 => by rw [f3 a a1 a2 a3, zst_ne a1], fun j hj => by rw [f4 j hj, zst_off hj], f5⟩
  rw [zg_M_covers_0_e]
  simp only [zM_I, zM_J, zM_P, zM_wI, zM_wL, zrf, zo181, zp181_23, zx254 hl]
  exact f1
end ZMC
