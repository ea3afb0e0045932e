/-! the reference counts the pieces with one more key -/
section ZPM
variable (X : zv_X) {b : Bool} {x : Int32} {K A B : zKL} {R : List Int32} {e t : Nat}
theorem zNp_le (f : Nat → Int) (n e : Nat) : zNp f n e ≤ n := by
  rcases Nat.lt_or_ge n (zNp f n e) with c | c
  · have h1 := (zNp_spec f n e).2 n c
    have := zF_ge f n e n h1
    omega
  · exact c
theorem m_pw98 {I : zI} {J : zJ} {N : Nat} {fx : Nat → Int} (hN : N ≤ 301) (he : e ≤ 20) (hfx : zfb fx) (hu : zupto fx N) (h0 : I 182 0 = Int32.ofNat e) (hr : ∀ j, j < N → (I 189 j).toInt = fx j) : ∃ I' J', zg_M_piecesWith_98 X 181 (Int32.ofNat N) (zM b I J) = some (some (.int (Int32.ofNat (zNp fx N e))), zM b I' J') ∧ zfM I I' J J' := by
  obtain ⟨I1, J1, g1, g2, g3, g4, g5⟩ := m_covers X (b := b) (I := zst (zst I 253 0 (Int32.ofNat N)) 255 0 (Int32.ofNat e)) (J := J) (l := 0) (n := N) (e := e) (f := fx) (by decide) hN he hfx hu (by rw [zst_ne (by decide), zst_self]) (by rw [zst_self]) (fun i hi => by rw [zst_ne (by decide), zst_ne (by decide)]; exact hr i hi)
  have x253 : ∀ {I : zI} {J : zJ} {k : Nat → Option zv_R}, zv_ix (zM b I J) 0 253 0 k = k 0 := zix (j := 0) (n := 12) rfl (by decide) (by decide)
  have x254 : ∀ {I : zI} {J : zJ} {k : Nat → Option zv_R}, zv_ix (zM b I J) 0 254 0 k = k 0 := zix (j := 0) (n := 12) rfl (by decide) (by decide)
  have x255 : ∀ {I : zI} {J : zJ} {k : Nat → Option zv_R}, zv_ix (zM b I J) 0 255 0 k = k 0 := zix (j := 0) (n := 12) rfl (by decide) (by decide)
  have g1' : zg_M_covers_0 X 181 0 (zM b (zst (zst I 253 0 (Int32.ofNat N)) 255 0 (Int32.ofNat e)) J) = _ := g1
  refine ⟨I1, J1, ?_, fun a ha => ⟨?_, ?_⟩, fun a h1 h2 => ?_, fun j _ => ?_⟩
  · rw [zg_M_piecesWith_98_e, zo181, zM_P, zp181_22, zrf, x253, zM_wI, zo181, zM_P, zp181_24, zrf, zo181, zp181_0, zrf, zw_0, x255, zM_I, zst_ne (by decide), h0, zM_wI, zo181, g1', zcv, zo181, zM_P, zp181_23, zrf, x254, zM_I, g2.2.2.1]
  · rw [g3 a (by omega) (by omega) (by omega), zst_ne (by omega), zst_ne (by omega)]
  · exact g5 a (by omega) (by omega) (by omega)
  · rw [g3 a (by omega) (by omega) (by omega), zst_ne (by omega), zst_ne (by omega)]
  · rw [g3 181 (by decide) (by decide) (by decide), zst_ne (by decide), zst_ne (by decide)]
theorem m_pw17 {J : zJ} {n : Nat} {g : Nat → Int32} (hn : n ≤ 300) (ht : t ≤ n) (lo : ∀ i, i < t → g i < x) (hi : ∀ i, t ≤ i → i < n → x < g i) : ∀ (m i : Nat) (I : zI), i + m = n → (∀ i, i < n → I 185 i = g i) → (∀ j, j < (if i ≤ t then i else i + 1) → I 189 j = zIn32 g t x j) → ∃ I', zg_M_piecesWith_17 X 181 (Int32.ofNat n) x (Int32.ofNat (if i ≤ t then i else i + 1)) (if i ≤ t then 0 else 1) (Int32.ofNat i) (zM b I J) = zg_M_piecesWith_98 X 181 (Int32.ofNat (n + 1)) (zM b I' J) ∧ (∀ a, a ≠ 189 → I' a = I a) ∧ ∀ j, j < n + 1 → I' 189 j = zIn32 g t x j := by
  have hq : ∀ {I : zI} {J : zJ} {k : Nat → Option zv_R}, zv_iq (zM b I J) 188 0 k = k 0 := ziq (a := 188) (t := 5) (n := 12) (j := 0) rfl ⟨by decide, by decide⟩ (by decide) (by decide)
  have hp : zP b 188 0 = some 189 := rfl
  have snoc : ∀ (I : zI) (k : Nat) (v : Int32), (∀ j, j < k → I 189 j = zIn32 g t x j) → v = zIn32 g t x k → ∀ j, j < k + 1 → zst I 189 k v 189 j = zIn32 g t x j := fun I k v h1 h2 j hj => by
    by_cases c : j = k
    · rw [c, zst_self, h2]
    · rw [zst_off c]; exact h1 j (by omega)
  intro m
  induction m with
  | zero =>
    intro i I hin h185 hr
    have : i = n := by omega
    subst this
    by_cases c : i ≤ t
    · have hit : i = t := by omega
      rw [if_pos c] at hr ⊢
      rw [if_pos c]
      refine ⟨zst I 189 i x, ?_, fun a ha => zst_ne ha, snoc I i x hr (by unfold zIn32; rw [if_neg (by omega), if_pos hit])⟩
      rw [zg_M_piecesWith_17_e, if_pos ((zn_le (by omega) (by omega)).mpr (Nat.le_refl _)), zg_M_piecesWith_80_e, if_pos rfl, zo181, zM_P, zp181_17, zrf, hq, hp, zrf, zx189 (by omega), zM_wI, zn_add1]
    · rw [if_neg c] at hr ⊢
      rw [if_neg c]
      refine ⟨I, ?_, fun a ha => rfl, hr⟩
      rw [zg_M_piecesWith_17_e, if_pos ((zn_le (by omega) (by omega)).mpr (Nat.le_refl _)), zg_M_piecesWith_80_e, if_neg (by decide)]
  | succ m ih =>
    intro i I hin h185 hr
    have hnle : ¬ Int32.ofNat n ≤ Int32.ofNat i := fun q => absurd ((zn_le (by omega) (by omega)).mp q) (by omega)
    have hv := h185 i (by omega)
    rcases Nat.lt_trichotomy i t with c | c | c
    · rw [if_pos (by omega)] at hr
      obtain ⟨I', q1, q2, q3⟩ := ih (i + 1) (zst I 189 i (g i)) (by omega) (fun k hk => by rw [zst_ne (by decide)]; exact h185 k hk) (by
        rw [if_pos (by omega)]
        exact snoc I i _ hr (by unfold zIn32; rw [if_pos c]))
      rw [if_pos (by omega), if_pos (by omega)] at q1
      refine ⟨I', ?_, fun a ha => by rw [q2 a ha, zst_ne ha], q3⟩
      rw [if_pos (by omega), if_pos (by omega), zg_M_piecesWith_17_e, if_neg hnle, if_pos rfl, zo181, zM_P, zp181_4, zrf, zx185 (by omega), zM_I, hv, if_pos (by have := lo i c; rw [zi_lt] at this; rw [zi_le]; omega), zg_M_piecesWith_55_e, zo181, zM_P, zp181_17, zrf, hq, hp, zrf, zo181, zp181_4, zrf, zx185 (by omega), zx189 (by omega), zM_I, hv, zM_wI, zn_add1, q1]
    · rw [if_pos (by omega)] at hr
      have s1 := snoc I i x hr (by unfold zIn32; rw [if_neg (by omega), if_pos c])
      have s2 := snoc (zst I 189 i x) (i + 1) (g i) s1 (by unfold zIn32; rw [if_neg (by omega), if_neg (by omega)]; rfl)
      obtain ⟨I', q1, q2, q3⟩ := ih (i + 1) (zst (zst I 189 i x) 189 (i + 1) (g i)) (by omega) (fun k hk => by rw [zst_ne (by decide), zst_ne (by decide)]; exact h185 k hk) (by
        rw [if_neg (by omega)]
        exact s2)
      rw [if_neg (by omega), if_neg (by omega)] at q1
      refine ⟨I', ?_, fun a ha => by rw [q2 a ha, zst_ne ha, zst_ne ha], q3⟩
      rw [if_pos (by omega), if_pos (by omega), zg_M_piecesWith_17_e, if_neg hnle, if_pos rfl, zo181, zM_P, zp181_4, zrf, zx185 (by omega), zM_I, hv, if_neg (by have := hi i (by omega) (by omega); rw [zi_lt] at this; rw [zi_le]; omega), zo181, zp181_17, zrf, hq, hp, zrf, zx189 (by omega), zM_wI, zn_add1, zg_M_piecesWith_55_e, zo181, zM_P, zp181_17, zrf, hq, hp, zrf, zo181, zp181_4, zrf, zx185 (by omega), zx189 (by omega), zM_I, zst_ne (by decide), hv, zM_wI, zn_add1, zn_add1, q1]
    · rw [if_neg (by omega)] at hr
      have s1 := snoc I (i + 1) (g i) hr (by unfold zIn32; rw [if_neg (by omega), if_neg (by omega)]; rfl)
      obtain ⟨I', q1, q2, q3⟩ := ih (i + 1) (zst I 189 (i + 1) (g i)) (by omega) (fun k hk => by rw [zst_ne (by decide)]; exact h185 k hk) (by
        rw [if_neg (by omega)]
        exact s1)
      rw [if_neg (by omega), if_neg (by omega)] at q1
      refine ⟨I', ?_, fun a ha => by rw [q2 a ha, zst_ne ha], q3⟩
      rw [if_neg (by omega), if_neg (by omega), zg_M_piecesWith_17_e, if_neg hnle, if_neg (by decide), zg_M_piecesWith_55_e, zo181, zM_P, zp181_17, zrf, hq, hp, zrf, zo181, zp181_4, zrf, zx185 (by omega), zx189 (by omega), zM_I, hv, zM_wI, zn_add1, zn_add1, q1]
theorem m_piecesWith {I : zI} {J : zJ} (hr : zrow (I 185) (K.map (·.1))) (hl : K.length ≤ 300) (hs : zSrt K) (hb : zKb K) (he : e ≤ 20) (h0 : I 182 0 = Int32.ofNat e) (hx : ¬ (x < -999999999 ∨ 999999999 < x)) (hc : zcnt x K = 0) (hz : ∀ q ∈ K, q.2 ≠ 0) : ∃ I' J', zg_M_piecesWith_0 X 181 (Int32.ofNat K.length) x 1 (zM b I J) = some (some (.int (Int32.ofNat (zV K e x))), zM b I' J') ∧ zfM I I' J J' := by
  obtain ⟨A, B, k1, k2, hw⟩ := zways x K hs
  replace hw : K = A ++ B := by
    rcases hw with ⟨hw, -, -⟩ | ⟨c, hw, c2, -⟩
    · exact hw
    · rw [hc] at c2
      exact absurd c2.symm (hz (x, c) (by rw [hw]; simp))
  have b1 : (-999999999 : Int32).toInt = -999999999 := rfl
  have b2 : (999999999 : Int32).toInt = 999999999 := rfl
  have hxb : -999999999 ≤ x.toInt ∧ x.toInt ≤ 999999999 := by
    rw [zi_lt, zi_lt, b1, b2] at hx; omega
  have ht : zltK K x = A.length := by rw [hw]; exact zltK_eq k1 k2
  have hlen : K.length = A.length + B.length := by rw [hw]; exact List.length_append ..
  have hux : zupto (zfx K A.length x) (K.length + 1) := by
    rw [hw]
    exact zfx_up (hw ▸ hs) k1 k2
  obtain ⟨I1, a1, a2, a3⟩ := m_pw17 X (b := b) (J := J) (x := x) (t := A.length) (n := K.length) (g := zksK K) hl (by omega) (fun i hi => by
    obtain ⟨q, hq, e1⟩ := zks_app (B := B) hi
    rw [hw, e1]; exact k1 q hq) (fun i hi hi2 => by
    obtain ⟨q, hq, e1⟩ := zks_app2 (A := A) (B := B) hi (hw ▸ hi2)
    rw [hw, e1]; exact k2 q hq) K.length 0 I (by omega) (fun i hi => zks_row hr hi) (fun j hj => by
    rw [if_pos (Nat.zero_le _)] at hj
    omega)
  rw [if_pos (Nat.zero_le _), if_pos (Nat.zero_le _)] at a1
  obtain ⟨I2, J2, g1, g2⟩ := m_pw98 X (b := b) (I := I1) (J := J) (N := K.length + 1) (e := e) (fx := zfx K A.length x) (by omega) he (zfx_fb hb hxb) hux (by rw [a2 182 (by decide)]; exact h0) (fun j hj => by rw [a3 j hj]; rfl)
  refine ⟨I2, J2, ?_, fun a ha => ⟨((g2.1 a ha).1).trans (a2 a (by omega)), (g2.1 a ha).2⟩, fun a q1 q2 => (g2.2.1 a q1 q2).trans (a2 a (by omega)), fun j hj => by rw [g2.2.2 j hj, a2 181 (by decide)]⟩
  have a1' : zg_M_piecesWith_17 X 181 (Int32.ofNat K.length) x 0 0 0 (zM b I J) = _ := a1
  unfold zV
  rw [ht, zg_M_piecesWith_0_e, if_neg (by decide), zg_M_piecesWith_11_e, zg_M_piecesWith_12_e, a1', g1]
theorem m_piecesNone {I : zI} {J : zJ} (he : e ≤ 20) (h0 : I 182 0 = Int32.ofNat e) : ∃ I' J', zg_M_piecesWith_0 X 181 0 0 0 (zM b I J) = some (some (.int 0), zM b I' J') ∧ zfM I I' J J' := by
  obtain ⟨I2, J2, g1, g2⟩ := m_pw98 X (b := b) (I := I) (J := J) (N := 0) (e := e) (fx := fun _ => 0) (by omega) he (fun i => ⟨by show (-999999999 : Int) ≤ 0; decide, by show (0 : Int) ≤ 999999999; decide⟩) (fun i j _ hj => by omega) h0 (fun j hj => by omega)
  refine ⟨I2, J2, ?_, g2⟩
  have e0 : zNp (fun _ => 0) 0 e = 0 := Nat.le_zero.mp (zNp_le _ _ _)
  rw [e0] at g1
  have g1' : zg_M_piecesWith_98 X 181 0 (zM b I J) = some (some (.int 0), zM b I2 J2) := g1
  rw [zg_M_piecesWith_0_e, if_pos rfl, zg_M_piecesWith_12_e, zg_M_piecesWith_17_e, if_pos (by decide), zg_M_piecesWith_80_e, if_neg (by decide), g1']
/-! poison -/
theorem zV_le (x : Int32) : zV K e x ≤ K.length + 1 := zNp_le _ _ _
theorem zpo_le : ∀ j, (zpo K e j).2 ≤ K.length + 1
  | 0 => Nat.zero_le _
  | j + 1 => by
    rcases Classical.em (zok K (zcd K j) ∧ (zpo K e j).2 < zV K e (zcd K j)) with c | c
    · rw [zpo_y c.1 c.2]
      exact zV_le _
    · rw [zpo_n c]
      exact zpo_le j
noncomputable def zpoA (K : zKL) (e : Nat) (w : Int32) : Int32 := if w = 0 then (zpo K e (2 * K.length)).1 else if w = 1 then Int32.ofNat (zpo K e (2 * K.length)).2 else -1
theorem c_canBeKey (M : zv_M) : zg_GP_canBeKey_0 X x M = some (some (.int (if x < -999999999 ∨ 999999999 < x then 0 else 1)), M) := by
  simp only [zg_GP_canBeKey_0_e, zg_GP_canBeKey_18_e, zg_GP_canBeKey_19_e]
  by_cases c1 : x < -999999999
  · simp [c1, zrb0]
  · by_cases c2 : 999999999 < x
    · simp [c1, c2, zrb0]
    · simp [c1, c2, zrb1]
def zfrP (I I' : zI) (J J' : zJ) : Prop := ∀ a, (a < 109 ∨ 177 < a) → a ≠ 180 → I' a = I a ∧ J' a = J a
theorem c_po61 {w : Int32} (hs : zSrt K) (hb : zKb K) (hct : ∀ q ∈ K, 1 ≤ q.2.toInt ∧ q.2.toInt ≤ 99) (he : e ≤ 20) : ∀ (m j : Nat) (I : zI) (J : zJ), j + m = 2 * K.length → zKeys I 2 K → I 6 0 = Int32.ofNat e → zLv I J 118 (fun i => (zksK K i).toInt) K.length e → ∃ I' J', zg_GP_poison_61 X 0 w 2 (zpo K e j).1 (Int32.ofNat (zpo K e j).2) (Int32.ofNat j) (zM b I J) = zg_GP_poison_141 X w (zpo K e (2 * K.length)).1 (Int32.ofNat (zpo K e (2 * K.length)).2) (zM b I' J') ∧ zfrP I I' J J' := by
  have hz : ∀ q ∈ K, q.2 ≠ 0 := fun q hq h => by
    have := hct q hq
    rw [h] at this
    have e0 : (0 : Int32).toInt = 0 := rfl
    omega
  intro m
  induction m with
  | zero =>
    intro j I J hj hk h6 hL
    have hl := hk.2.2.2
    have : j = 2 * K.length := by omega
    subst this
    refine ⟨I, J, ?_, fun a _ _ => ⟨rfl, rfl⟩⟩
    rw [zg_GP_poison_61_e, zo2, zM_I, hk.1, zkm2, if_pos ((zn_le (by omega) (by omega)).mpr (Nat.le_refl _))]
  | succ m ih =>
    intro j I J hj hk h6 hL
    have hl := hk.2.2.2
    have hmod : (Int32.ofNat j - Int32.ofNat j / 2 * 2 = 0) ↔ j % 2 = 0 := by
      have e2 : (2 : Int32) = Int32.ofNat 2 := rfl
      rw [zkd2 (by omega), e2, zn_mul, zn_sub (by omega), zke0 (by omega)]
      omega
    have hrow : I 3 (j / 2) = zksK K (j / 2) := zks_row hk.2.1 (by omega)
    have st : zg_GP_poison_61 X 0 w 2 (zpo K e j).1 (Int32.ofNat (zpo K e j).2) (Int32.ofNat j) (zM b I J) = zg_GP_poison_93 X 0 w 2 (zpo K e j).1 (Int32.ofNat (zpo K e j).2) (Int32.ofNat j) (if j % 2 = 0 then -1 else 1) (zksK K (j / 2)) (zM b I J) := by
      rw [zg_GP_poison_61_e, zo2, zM_I, hk.1, zkm2, if_neg (fun q => absurd ((zn_le (by omega) (by omega)).mp q) (by omega)), zo2, zM_P, zp2_0, zrf, if_neg (by decide)]
      conv => lhs; rw [zkd2 (by omega), zx3 (by omega), if_neg (by decide), hrow, zg_GP_poison_92_e]
      have hmod' : (Int32.ofNat j - Int32.ofNat (j / 2) * 2 = 0) ↔ j % 2 = 0 := by
        rw [← zkd2 (by omega)]; exact hmod
      by_cases c : j % 2 = 0
      · rw [if_pos (hmod'.mpr c), if_pos c]
      · rw [if_neg (fun q => c (hmod'.mp q)), if_neg c]
    have hcd : zksK K (j / 2) + (if j % 2 = 0 then -1 else 1) = zcd K j := rfl
    have hh := s_has X (b := b) (I := I) (J := J) (x := zcd K j) (zKy_2 b) hk hs
    have next : ∀ (I1 : zI) (J1 : zJ), zfrP I I1 J J1 → zKeys I1 2 K ∧ I1 6 0 = Int32.ofNat e := fun I1 J1 fr => by
      unfold zKeys at *
      rw [(fr 2 (by decide) (by decide)).1, (fr (2 + 1) (by decide) (by decide)).1, (fr (2 + 2) (by decide) (by decide)).1, (fr 6 (by decide) (by decide)).1]
      exact ⟨hk, h6⟩
    rw [st, zg_GP_poison_93_e, hcd, c_canBeKey, zci, zif01]
    by_cases c1 : zcd K j < -999999999 ∨ 999999999 < zcd K j
    · obtain ⟨I', J', q1, q2⟩ := ih (j + 1) I J (by omega) hk h6 hL
      rw [zpo_n (fun q => q.1.1 c1)] at q1
      rw [if_pos c1, zg_GP_poison_135_e, zn_add1]
      exact ⟨I', J', q1, q2⟩
    · rw [if_neg c1, zo2, hh, zci, zif01]
      by_cases c2 : zcnt (zcd K j) K = 0
      · obtain ⟨I1, J1, p1, p2⟩ := c_piecesWith X (b := b) (x := zcd K j) hk hs hb (by omega) he h6 hL c1 c2 hz
        have fr1 : zfrP I I1 J J1 := fun a h1 h2 => p2 a (by omega) h2
        have hL1 : zLv I1 J1 118 (fun i => (zksK K i).toInt) K.length e := zLv_frame hL (fun a h1 h2 => p2 a (by omega) (by omega))
        obtain ⟨n1, n2⟩ := next I1 J1 fr1
        obtain ⟨I', J', q1, q2⟩ := ih (j + 1) I1 J1 (by omega) n1 n2 hL1
        have hV := zV_le (K := K) (e := e) (zcd K j)
        have hp := zpo_le (K := K) (e := e) j
        rw [if_pos ((zcnt_le0 hct).mpr c2), zo0, p1, zci]
        refine ⟨I', J', ?_, fun a h1 h2 => ⟨((q2 a h1 h2).1).trans (fr1 a h1 h2).1, ((q2 a h1 h2).2).trans (fr1 a h1 h2).2⟩⟩
        by_cases c3 : zV K e (zcd K j) ≤ (zpo K e j).2
        · rw [zpo_n (fun q => absurd q.2 (by omega))] at q1
          rw [if_pos ((zn_le (by omega) (by omega)).mpr c3), zg_GP_poison_135_e, zn_add1, q1]
        · rw [zpo_y ⟨c1, c2⟩ (by omega)] at q1
          rw [if_neg (fun q => c3 ((zn_le (by omega) (by omega)).mp q)), zg_GP_poison_135_e, zn_add1, q1]
      · obtain ⟨I', J', q1, q2⟩ := ih (j + 1) I J (by omega) hk h6 hL
        rw [zpo_n (fun q => c2 q.1.2)] at q1
        rw [if_neg (fun q => c2 ((zcnt_le0 hct).mp q)), zg_GP_poison_135_e, zn_add1]
        exact ⟨I', J', q1, q2⟩
theorem c_poison {I : zI} {J : zJ} {w : Int32} {u : Nat} (hk : zKeys I 2 K) (hs : zSrt K) (hb : zKb K) (hct : ∀ q ∈ K, 1 ≤ q.2.toInt ∧ q.2.toInt ≤ 99) (he : e ≤ 20) (hu : u ≤ 20) (h6 : I 6 0 = Int32.ofNat e) (h61 : I 6 1 = Int32.ofNat u) : ∃ I' J', zg_GP_poison_0 X 0 w (zM b I J) = some (some (.int (zpoA K e w)), zM b I' J') ∧ zfrP I I' J J' := by
  unfold zpoA
  by_cases cw : w = 0 ∨ w = 1
  · obtain ⟨I1, J1, H, a1, ⟨a2, a2v⟩, a3⟩ := c_over0 X (b := b) (I := I) (J := J) (cv := 109) (n := K.length) (e := e) (u := u) (ar := 3) (N := 300) (f := fun i => (zksK K i).toInt) (zCvS_109 b) (zks_fb hb) (zks_upto hs) hk.2.2.2 he hu rfl (by decide) hk.2.2.2 (Or.inl (by decide)) (fun i hi => by rw [zks_row hk.2.1 hi])
    have fr1 : zfrP I I1 J J1 := fun a h1 _ => a3 a (by omega)
    have k1 : zKeys I1 2 K := by
      unfold zKeys at *
      rw [(fr1 2 (by decide) (by decide)).1, (fr1 (2 + 1) (by decide) (by decide)).1, (fr1 (2 + 2) (by decide) (by decide)).1]
      exact hk
    obtain ⟨I', J', q1, q2⟩ := c_po61 X (b := b) (w := w) hs hb hct he (2 * K.length) 0 I1 J1 (by omega) k1 (by rw [(fr1 6 (by decide) (by decide)).1]; exact h6) a2v
    refine ⟨I', J', ?_, fun a h1 h2 => ⟨((q2 a h1 h2).1).trans (fr1 a h1 h2).1, ((q2 a h1 h2).2).trans (fr1 a h1 h2).2⟩⟩
    have q1' : zg_GP_poison_61 X 0 w 2 (-1000000001) 0 0 (zM b I1 J1) = _ := q1
    have h11 : zg_GP_poison_0 X 0 w (zM b I J) = zg_GP_poison_11 X 0 w (zM b I J) := by
      rw [zg_GP_poison_0_e]
      rcases cw with c | c
      · rw [if_pos c]
      · rw [if_neg (by rw [c]; decide), if_pos c]
    rw [h11, zg_GP_poison_11_e, zo0, zM_P, zp0_0, zrf, zo1, zp1_0, zrf, zo0, zp0_5, zrf, zo2, zp2_0, zrf, zo2, zo0, zrf, zo1, zp1_3, zrf, zx6_0, zo0, zrf, zo1, zp1_3, zrf, zx6_1, zo109, zM_I, hk.1, h6, h61, a1, zcv, q1', zg_GP_poison_141_e, zg_GP_poison_149_e, zg_GP_poison_151_e, zg_GP_poison_151_e]
    rcases cw with c | c
    · rw [if_pos c, if_pos c]
    · rw [if_neg (by rw [c]; decide), if_neg (by rw [c]; decide), if_pos c]
  · refine ⟨I, J, ?_, fun a _ _ => ⟨rfl, rfl⟩⟩
    rw [zg_GP_poison_0_e, if_neg (fun q => cw (Or.inl q)), if_neg (fun q => cw (Or.inr q)), if_neg (fun q => cw (Or.inl q)), if_neg (fun q => cw (Or.inr q))]
noncomputable def zm4 (K : zKL) (e j : Nat) : Int32 := if (zpo K e j).2 = 0 then -1 else Int32.ofNat (zpo K e j).2
theorem m_po34 {w : Int32} {I : zI} {J : zJ} (hk : zMK (I 182) K R) (hr : zKR K R) (hb : zKb K) (he : e ≤ 20) (h0 : I 182 0 = Int32.ofNat e) (hrow : zrow (I 185) (K.map (·.1))) {j : Nat} (hj : j < 2 * K.length) : ∃ I' J', zg_M_poison_34 X 181 w (Int32.ofNat K.length) (zpo K e j).1 (zm4 K e j) (Int32.ofNat (j / 2)) (if j % 2 = 0 then -1 else 1) (zM b I J) = zg_M_poison_34 X 181 w (Int32.ofNat K.length) (zpo K e (j + 1)).1 (zm4 K e (j + 1)) (Int32.ofNat (j / 2)) ((if j % 2 = 0 then -1 else 1) + 2) (zM b I' J') ∧ zfM I I' J J' := by
  have hz := hr.nz
  have hs := hr.1
  have hct := hr.2.2.2.2
  have hl := hr.2.2.1
  have hcd : zksK K (j / 2) + (if j % 2 = 0 then -1 else 1) = zcd K j := rfl
  have h185 : I 185 (j / 2) = zksK K (j / 2) := zks_row hrow (by omega)
  have n2 : ¬ (2 : Int32) ≤ (if j % 2 = 0 then -1 else 1) := by
    split <;> decide
  have st : zg_M_poison_34 X 181 w (Int32.ofNat K.length) (zpo K e j).1 (zm4 K e j) (Int32.ofNat (j / 2)) (if j % 2 = 0 then -1 else 1) (zM b I J) = if zok K (zcd K j) then zg_M_poison_72 X 181 w (Int32.ofNat K.length) (zpo K e j).1 (zm4 K e j) (Int32.ofNat (j / 2)) (if j % 2 = 0 then -1 else 1) (zcd K j) (zM b I J) else zg_M_poison_112 X 181 w (Int32.ofNat K.length) (zpo K e j).1 (zm4 K e j) (Int32.ofNat (j / 2)) (if j % 2 = 0 then -1 else 1) (zM b I J) := by
    generalize (if j % 2 = 0 then (-1 : Int32) else 1) = l6 at hcd n2 ⊢
    conv => lhs; rw [zg_M_poison_34_e, if_neg n2, zo181, zM_P, zp181_4, zrf, zx185 (by omega), zM_I, h185, hcd, m_isNumber, zci, zif01]
    unfold zok
    by_cases c1 : zcd K j < -999999999 ∨ 999999999 < zcd K j
    · rw [if_pos c1, if_neg (fun q => q.1 c1)]
    · rw [if_neg c1, zo181, m_count X hk hr, zci]
      by_cases c2 : zcnt (zcd K j) K = 0
      · rw [if_pos ((zcnt_le0 hct).mpr c2), if_pos ⟨c1, c2⟩]
      · rw [if_neg (fun q => c2 ((zcnt_le0 hct).mp q)), if_neg (fun q => c2 q.2)]
  rw [st]
  by_cases c : zok K (zcd K j)
  · obtain ⟨I', J', p1, p2⟩ := m_piecesWith X (b := b) (J := J) (x := zcd K j) hrow hl hs hb he h0 c.1 c.2 hz
    refine ⟨I', J', ?_, p2⟩
    have hV := zV_le (K := K) (e := e) (zcd K j)
    have hVp := zV_pos (K := K) (e := e) (zcd K j)
    have hp := zpo_le (K := K) (e := e) j
    have m1 : (-1 : Int32).toInt = -1 := rfl
    rw [if_pos c, zg_M_poison_72_e, zo181, p1, zci]
    simp only [zg_M_poison_105_e, zg_M_poison_112_e]
    rcases Nat.lt_or_ge (zpo K e j).2 (zV K e (zcd K j)) with d | d
    · have e1 : zm4 K e (j + 1) = Int32.ofNat (zV K e (zcd K j)) := by
        unfold zm4
        rw [zpo_y c d]
        exact if_neg (by simp only; omega)
      rw [e1, zpo_y c d, if_neg, if_neg]
      · unfold zm4
        split
        · intro q
          rw [zi_eq, zn_int (by omega), m1] at q
          omega
        · exact fun q => absurd ((zn_eq (by omega) (by omega)).mp q) (by omega)
      · unfold zm4
        split
        · intro q
          rw [zi_lt, zn_int (by omega), m1] at q
          omega
        · exact fun q => absurd ((zn_lt (by omega) (by omega)).mp q) (by omega)
    · have e0 : zpo K e (j + 1) = zpo K e j := zpo_n (fun q => absurd q.2 (by omega))
      have e1 : zm4 K e (j + 1) = zm4 K e j := by unfold zm4; rw [e0]
      have e2 : zm4 K e j = Int32.ofNat (zpo K e j).2 := by unfold zm4; rw [if_neg (by omega)]
      rw [e1, e0, e2]
      by_cases d1 : zV K e (zcd K j) < (zpo K e j).2
      · rw [if_pos ((zn_lt (by omega) (by omega)).mpr d1)]
      · rw [if_neg (fun q => d1 ((zn_lt (by omega) (by omega)).mp q)), if_pos (by rw [show zV K e (zcd K j) = (zpo K e j).2 by omega]), if_neg]
        intro q
        rcases zpo_inv (K := K) (e := e) j with g | ⟨i, i1, i2, i3, i4⟩
        · rw [g] at d; simp only at d; omega
        · have := zcd_le hs hb hz i1 hj i2
          rw [i3, zi_lt] at q
          omega
  · refine ⟨I, J, ?_, zfM_refl I J⟩
    have e0 : zpo K e (j + 1) = zpo K e j := zpo_n (fun q => c q.1)
    have e1 : zm4 K e (j + 1) = zm4 K e j := by unfold zm4; rw [e0]
    rw [if_neg c, zg_M_poison_112_e, e1, e0]
theorem m_po25 {w : Int32} (hr : zKR K R) (hb : zKb K) (he : e ≤ 20) : ∀ (m i : Nat) (I : zI) (J : zJ), i + m = K.length → zMK (I 182) K R → I 182 0 = Int32.ofNat e → zrow (I 185) (K.map (·.1)) → ∃ I' J', zg_M_poison_25 X 181 w (Int32.ofNat K.length) (zpo K e (2 * i)).1 (zm4 K e (2 * i)) (Int32.ofNat i) (zM b I J) = zg_M_poison_124 X 181 w (Int32.ofNat K.length) (zpo K e (2 * K.length)).1 (zm4 K e (2 * K.length)) (zM b I' J') ∧ zfM I I' J J' := by
  have hl := hr.2.2.1
  intro m
  induction m with
  | zero =>
    intro i I J hi hk h0 hrow
    have : i = K.length := by omega
    subst this
    refine ⟨I, J, ?_, zfM_refl I J⟩
    rw [zg_M_poison_25_e, if_pos ((zn_le (by omega) (by omega)).mpr (Nat.le_refl _))]
  | succ m ih =>
    intro i I J hi hk h0 hrow
    obtain ⟨I1, J1, a1, a2⟩ := m_po34 X (b := b) (w := w) (J := J) hk hr hb he h0 hrow (show 2 * i < 2 * K.length by omega)
    have w182 : I1 182 = I 182 := a2.2.1 182 (by decide) (by decide)
    have w185 : I1 185 = I 185 := a2.2.1 185 (by decide) (by decide)
    obtain ⟨I2, J2, b1, b2⟩ := m_po34 X (b := b) (w := w) (I := I1) (J := J1) (by rw [w182]; exact hk) hr hb he (by rw [w182]; exact h0) (by rw [w185]; exact hrow) (show 2 * i + 1 < 2 * K.length by omega)
    have w182' : I2 182 = I 182 := (b2.2.1 182 (by decide) (by decide)).trans w182
    have w185' : I2 185 = I 185 := (b2.2.1 185 (by decide) (by decide)).trans w185
    obtain ⟨I3, J3, c1, c2⟩ := ih (i + 1) I2 J2 (by omega) (by rw [w182']; exact hk) (by rw [w182']; exact h0) (by rw [w185']; exact hrow)
    refine ⟨I3, J3, ?_, zfM_tr (zfM_tr a2 b2) c2⟩
    rw [if_pos (by omega), show 2 * i / 2 = i by omega] at a1
    rw [if_neg (by omega), show (2 * i + 1) / 2 = i by omega] at b1
    have a1' : zg_M_poison_34 X 181 w (Int32.ofNat K.length) (zpo K e (2 * i)).1 (zm4 K e (2 * i)) (Int32.ofNat i) (-1) (zM b I J) = zg_M_poison_34 X 181 w (Int32.ofNat K.length) (zpo K e (2 * i + 1)).1 (zm4 K e (2 * i + 1)) (Int32.ofNat i) 1 (zM b I1 J1) := a1
    have b1' : zg_M_poison_34 X 181 w (Int32.ofNat K.length) (zpo K e (2 * i + 1)).1 (zm4 K e (2 * i + 1)) (Int32.ofNat i) 1 (zM b I1 J1) = zg_M_poison_34 X 181 w (Int32.ofNat K.length) (zpo K e (2 * (i + 1))).1 (zm4 K e (2 * (i + 1))) (Int32.ofNat i) 3 (zM b I2 J2) := b1
    rw [zg_M_poison_25_e, if_neg (fun q => absurd ((zn_le (by omega) (by omega)).mp q) (by omega)), a1', b1', zg_M_poison_34_e, if_pos (by decide), zg_M_poison_118_e, zn_add1, c1]
theorem m_poison {I : zI} {J : zJ} {w : Int32} (hk : zMK (I 182) K R) (hr : zKR K R) (hb : zKb K) (he : e ≤ 20) (h0 : I 182 0 = Int32.ofNat e) : ∃ I' J', zg_M_poison_0 X 181 w (zM b I J) = some (some (.int (zpoA K e w)), zM b I' J') ∧ (∀ a, a < 181 → I' a = I a ∧ J' a = J a) ∧ (∀ a, 182 ≤ a → a ≤ 187 → a ≠ 185 → a ≠ 186 → I' a = I a) ∧ ∀ j, j ≠ 25 → I' 181 j = I 181 j := by
  unfold zpoA
  have hin : zg_M_isIn_0 X w 0 1 (zM b I J) = some (some (.int (if w = 0 ∨ w = 1 then 1 else 0)), zM b I J) := by
    rw [m_isIn]
    have e0 : (0 : Int32).toInt = 0 := rfl
    have e1 : (1 : Int32).toInt = 1 := rfl
    have : (w < 0 ∨ 1 < w) ↔ ¬ (w = 0 ∨ w = 1) := by
      rw [zi_lt, zi_lt, zi_eq, zi_eq, e0, e1]; omega
    by_cases c : w = 0 ∨ w = 1
    · rw [if_pos c, if_neg (fun q => this.mp q c)]
    · rw [if_neg c, if_pos (this.mpr c)]
  by_cases cw : w = 0 ∨ w = 1
  · obtain ⟨I1, a1, a2, a3, a4⟩ := m_laysAll X (b := b) (J := J) hk hr
    have w182 : I1 182 = I 182 := a4 182 (by decide) (by decide)
    obtain ⟨I2, J2, b1, b2⟩ := m_po25 X (b := b) (w := w) hr hb he K.length 0 I1 J (by omega) (by rw [w182]; exact hk) (by rw [w182]; exact h0) a2
    have b1' : zg_M_poison_25 X 181 w (Int32.ofNat K.length) (-1000000001) (-1) 0 (zM b I1 J) = _ := b1
    have st : zg_M_poison_0 X 181 w (zM b I J) = zg_M_poison_124 X 181 w (Int32.ofNat K.length) (zpo K e (2 * K.length)).1 (zm4 K e (2 * K.length)) (zM b I2 J2) := by
      rw [zg_M_poison_0_e, hin, zci, if_pos cw, if_neg (by decide), zg_M_poison_11_e, zo181, a1, zci, b1']
    have frm : ∀ I3 J3, zfM I2 I3 J2 J3 → (∀ a, a < 181 → I3 a = I a ∧ J3 a = J a) ∧ (∀ a, 182 ≤ a → a ≤ 187 → a ≠ 185 → a ≠ 186 → I3 a = I a) ∧ ∀ j, j ≠ 25 → I3 181 j = I 181 j := fun I3 J3 q => by
      have q' := zfM_tr b2 q
      refine ⟨fun a ha => ⟨((q'.1 a ha).1).trans (a4 a (by omega) (by omega)), (q'.1 a ha).2⟩, fun a h1 h2 h3 h4 => (q'.2.1 a h1 h2).trans (a4 a h3 h4), fun j hj => (q'.2.2 j hj).trans (by rw [a4 181 (by decide) (by decide)])⟩
    rw [st, zg_M_poison_124_e, zg_M_poison_150_e, zg_M_poison_132_e, zg_M_poison_148_e]
    by_cases c0 : w = 0
    · rw [if_pos c0, if_pos c0]
      exact ⟨I2, J2, rfl, frm I2 J2 (zfM_refl _ _)⟩
    · have c1 := cw.resolve_left c0
      rw [if_neg c0, if_neg c0, if_pos c1]
      rcases zpo_inv (K := K) (e := e) (2 * K.length) with g | ⟨i, i1, i2, i3, i4⟩
      · have hn0 : K.length = 0 := by
          rcases Nat.eq_zero_or_pos K.length with d | d
          · exact d
          · obtain ⟨j, j1, j2⟩ := zcd_ex hr.1 hb hr.2.2.1 d
            exact absurd j2 (zpo_none g j j1)
        obtain ⟨I3, J3, p1, p2⟩ := m_piecesNone X (b := b) (I := I2) (J := J2) he (by rw [b2.2.1 182 (by decide) (by decide), w182]; exact h0)
        rw [if_pos (by rw [g]; rfl), zo181, hn0]
        have p1' : zg_M_piecesWith_0 X 181 (Int32.ofNat 0) 0 0 (zM b I2 J2) = _ := p1
        rw [p1', zci, zg_M_poison_150_e]
        refine ⟨I3, J3, ?_, frm I3 J3 p2⟩
        rw [hn0] at g
        rw [g]
        rfl
      · rw [if_neg, zg_M_poison_150_e]
        · refine ⟨I2, J2, ?_, frm I2 J2 (zfM_refl _ _)⟩
          unfold zm4
          rw [if_neg (by omega)]
        · intro q
          rw [i3] at q
          rw [q] at i2
          exact i2.1 (Or.inl (by decide))
  · refine ⟨I, J, ?_, fun a _ => ⟨rfl, rfl⟩, fun a _ _ _ _ => rfl, fun j _ => rfl⟩
    rw [zg_M_poison_0_e, hin, zci, if_neg cw, if_pos rfl, if_neg (fun q => cw (Or.inl q)), if_neg (fun q => cw (Or.inr q))]
end ZPM
