/-! errors and pages -/
theorem zpcI_ex (f : Nat → Int) (n e i : Nat) : ∀ N, N ≤ zNp f n e → i < zF f n e N → ∃ k, k < N ∧ zF f n e k ≤ i ∧ i < zF f n e (k + 1)
  | 0, _, h => by have e0 : zF f n e 0 = 0 := rfl; omega
  | N + 1, hN, h => by
    rcases Nat.lt_or_ge i (zF f n e N) with c | c
    · obtain ⟨k, h1, h2⟩ := zpcI_ex f n e i N (by omega) c
      exact ⟨k, by omega, h2⟩
    · exact ⟨N, by omega, c, h⟩
noncomputable def zpcI (f : Nat → Int) (n e i : Nat) : Nat := Classical.epsilon (fun k => k < zNp f n e ∧ zF f n e k ≤ i ∧ i < zF f n e (k + 1))
theorem zpcI_eq {f : Nat → Int} {n e i k : Nat} (hk : k < zNp f n e) (h1 : zF f n e k ≤ i) (h2 : i < zF f n e (k + 1)) : zpcI f n e i = k := by
  have hs : zpcI f n e i < zNp f n e ∧ zF f n e (zpcI f n e i) ≤ i ∧ i < zF f n e (zpcI f n e i + 1) := Classical.epsilon_spec (p := fun k => k < zNp f n e ∧ zF f n e k ≤ i ∧ i < zF f n e (k + 1)) ⟨k, hk, h1, h2⟩
  obtain ⟨g1, g2, g3⟩ := hs
  have mono : ∀ a c, a ≤ c → c ≤ zNp f n e → zF f n e a ≤ zF f n e c := fun a c h1 h2 => by
    rcases Nat.lt_or_ge a c with d | d
    · exact Nat.le_of_lt (zF_mono d h2)
    · have : a = c := by omega
      rw [this]; exact Nat.le_refl _
  rcases Nat.lt_trichotomy (zpcI f n e i) k with c | c | c
  · have := mono (zpcI f n e i + 1) k (by omega) (by omega); omega
  · exact c
  · have := mono (k + 1) (zpcI f n e i) (by omega) (by omega); omega
theorem zpcI_spec {f : Nat → Int} {n e i : Nat} (h : i < n) : zpcI f n e i < zNp f n e ∧ zF f n e (zpcI f n e i) ≤ i ∧ i < zF f n e (zpcI f n e i + 1) := by
  obtain ⟨k, hk, h1, h2⟩ := zpcI_ex f n e i (zNp f n e) (Nat.le_refl _) (by rw [(zNp_spec f n e).1]; exact h)
  rw [zpcI_eq hk h1 h2]
  exact ⟨hk, h1, h2⟩
noncomputable def zgi (f : Nat → Int) (n e i : Nat) : Nat := zgk f n e (zpcI f n e i) (f i)
noncomputable def zofE (f : Nat → Int) (n e i : Nat) : Nat := if i ≤ zgi f n e i then zgi f n e i - i else i - zgi f n e i
noncomputable def zEr (f : Nat → Int) (n e : Nat) : Nat → Nat × Nat × Nat
  | 0 => (0, 0, 0)
  | i + 1 => if (zEr f n e i).1 < zofE f n e i then (zofE f n e i, (zEr f n e i).2.1 + zofE f n e i, i) else ((zEr f n e i).1, (zEr f n e i).2.1 + zofE f n e i, (zEr f n e i).2.2)
theorem zofE_le {f : Nat → Int} {n e i : Nat} (hi : i ≤ n) : zofE f n e i ≤ n := by
  have := zgk_le (f := f) (n := n) (e := e) (k := zpcI f n e i) (x := f i)
  unfold zofE zgi
  split <;> omega
theorem zEr_le {f : Nat → Int} {n e : Nat} : ∀ i, i ≤ n → (zEr f n e i).1 ≤ n
  | 0, _ => Nat.zero_le _
  | i + 1, h => by
    have h1 := zEr_le (f := f) (n := n) (e := e) i (by omega)
    have h2 := zofE_le (f := f) (n := n) (e := e) (i := i) (by omega)
    rw [zEr]
    split <;> omega
section ZER
variable (X : zv_X) {b : Bool} {I : zI} {J : zJ}
theorem m_pieceOf {l n e i : Nat} {f : Nat → Int} (hl : l < 12) (hn : n ≤ 301) (hu : zupto f n) (h : zML I J l f n e) (hi : i < n) : zg_M_pieceOf_0 X 181 (Int32.ofNat l) (Int32.ofNat i) (zM b I J) = some (some (.int (Int32.ofNat (zpcI f n e i))), zM b I J) := by
  obtain ⟨g1, g2, g3⟩ := zpcI_spec (e := e) (f := f) hi
  have hhalf := zNp_half (e := e) hu
  have loop : ∀ m k, k + m = zpcI f n e i → zg_M_pieceOf_2 X 181 (Int32.ofNat l) (Int32.ofNat i) (Int32.ofNat k) (zM b I J) = some (some (.int (Int32.ofNat (zpcI f n e i))), zM b I J) := by
    intro m
    induction m with
    | zero =>
      intro k hk
      have hk : k = zpcI f n e i := by omega
      rw [← hk] at g1 g2 g3 ⊢
      have q2 := (h.2.2.2.2 k g1).2.1
      have := zF_le f n e (k + 1)
      rw [zg_M_pieceOf_2_e]
      simp only [zM_I, zM_J, zM_P, zM_wI, zM_wL, zrf, zo181, zp181_19, zmt214 hl, zmx215 hl (show k < 302 by omega), q2]
      rw [if_pos ((zn_le (by omega) (by omega)).mpr (by omega)), zg_M_pieceOf_20_e]
    | succ m ih =>
      intro k hk
      have q2 := (h.2.2.2.2 k (by omega)).2.1
      have hm : zF f n e (k + 1) ≤ zF f n e (zpcI f n e i) := by
        rcases Nat.lt_or_ge (k + 1) (zpcI f n e i) with c | c
        · exact Nat.le_of_lt (zF_mono c (by omega))
        · have : k + 1 = zpcI f n e i := by omega
          rw [this]; exact Nat.le_refl _
      have h1 := zF_mono (f := f) (n := n) (e := e) (show k < k + 1 by omega) (by omega)
      rw [zg_M_pieceOf_2_e]
      simp only [zM_I, zM_J, zM_P, zM_wI, zM_wL, zrf, zo181, zp181_19, zmt214 hl, zmx215 hl (show k < 302 by omega), q2, zn_add1]
      rw [if_neg (fun q => absurd ((zn_le (by omega) (by omega)).mp q) (by omega)), ih (k + 1) (by omega)]
  rw [zg_M_pieceOf_0_e]
  exact loop (zpcI f n e i) 0 (by omega)
theorem zabsN {g i : Nat} (hg : g < 2 ^ 20) (hi : i < 2 ^ 20) (M : zv_M) : zg_Math_abs_0 X (Int32.ofNat g - Int32.ofNat i) M = some (some (.int (Int32.ofNat (if i ≤ g then g - i else i - g))), M) := by
  rw [s_abs]
  have e0 : (0 : Int32).toInt = 0 := rfl
  have es : (Int32.ofNat g - Int32.ofNat i).toInt = (g : Int) - i := by
    rw [zi_sub (by rw [zn_int (by omega), zn_int (by omega)]; omega) (by rw [zn_int (by omega), zn_int (by omega)]; omega), zn_int (by omega), zn_int (by omega)]
  congr 4
  rw [zi_eq]
  by_cases c : i ≤ g
  · rw [if_pos (by rw [zi_le, e0, es]; omega), if_pos c, es, zn_int (by omega)]; omega
  · rw [if_neg (by rw [zi_le, e0, es]; omega), if_neg c, zi_neg (by rw [es]; omega), es, zn_int (by omega)]; omega
theorem c_err66 {lv cap n e k : Nat} {f : Nat → Int} {w : Int32} (hs : zLs b lv cap) (hn : n ≤ cap) (hn3 : n ≤ 300) (he : e ≤ 20) (hu : zupto f n) (hf : zfb f) (h : zLv I J lv f n e) (hk : k < zNp f n e) : ∀ m i, i + m = zF f n e (k + 1) → zF f n e k ≤ i → zg_GP_errors_66 X w lv (Int32.ofNat (zEr f n e i).1) (Int32.ofNat (zEr f n e i).2.1) (Int32.ofNat (zEr f n e i).2.2) (Int32.ofNat k) (Int32.ofNat i) (zM b I J) = zg_GP_errors_126 X w lv (Int32.ofNat (zEr f n e (zF f n e (k + 1))).1) (Int32.ofNat (zEr f n e (zF f n e (k + 1))).2.1) (Int32.ofNat (zEr f n e (zF f n e (k + 1))).2.2) (Int32.ofNat k) (zM b I J) := by
  have hle := zF_le f n e (k + 1)
  have hl := c_lastOf X (b := b) hs hn hu h hk
  have hmono := zF_mono (f := f) (n := n) (e := e) (show k < k + 1 by omega) (by omega)
  have hcap := hs.2.2.2.2.2.2.2.2.2.2.2
  intro m
  induction m with
  | zero =>
    intro i hi h1
    have : i = zF f n e (k + 1) := by omega
    subst this
    rw [zg_GP_errors_66_e, zob hs.1, hl, zci, if_pos ((zn_lt (by omega) (by omega)).mpr (by omega))]
  | succ m ih =>
    intro i hi h1
    have hpc : zpcI f n e i = k := zpcI_eq hk h1 (by omega)
    have hrow := h.2.2.2.1 i (by omega)
    have hg := c_guess X (b := b) (x := I (lv + 1) i) hs hn hn3 he hu hf h hk
    rw [hrow, show zgk f n e k (f i) = zgi f n e i by unfold zgi; rw [hpc]] at hg
    have hgl : zgi f n e i ≤ n := zgk_le
    have h2 := zEr_le (f := f) (n := n) (e := e) i (by omega)
    have h3 := zofE_le (f := f) (n := n) (e := e) (i := i) (by omega)
    have ih' := ih (i + 1) (by omega) (by omega)
    rw [zg_GP_errors_66_e, zob hs.1, hl, zci, if_neg (fun q => absurd ((zn_lt (by omega) (by omega)).mp q) (by omega)), zob hs.1, zM_P, hs.2.2.2.2.2.2.1, zrf, zix hs.2.1 (by omega) (by omega), zM_I, zob hs.1, hg, zci, zabsN X (by omega) (by omega), zci, show (if i ≤ zgi f n e i then zgi f n e i - i else i - zgi f n e i) = zofE f n e i from rfl, zg_GP_errors_120_e, zg_GP_errors_120_e, zn_add, zn_add1]
    by_cases c : (zEr f n e i).1 < zofE f n e i
    · rw [if_neg (fun q => absurd ((zn_le (by omega) (by omega)).mp q) (by omega))]
      rw [zEr, if_pos c] at ih'
      exact ih'
    · rw [if_pos ((zn_le (by omega) (by omega)).mpr (by omega))]
      rw [zEr, if_neg c] at ih'
      exact ih'
theorem c_err48 {lv cap n e : Nat} {f : Nat → Int} {w : Int32} (hs : zLs b lv cap) (hn : n ≤ cap) (hn3 : n ≤ 300) (he : e ≤ 20) (hu : zupto f n) (hf : zfb f) (h : zLv I J lv f n e) : ∀ m k, k + m = zNp f n e → zg_GP_errors_48 X w lv (Int32.ofNat (zEr f n e (zF f n e k)).1) (Int32.ofNat (zEr f n e (zF f n e k)).2.1) (Int32.ofNat (zEr f n e (zF f n e k)).2.2) (Int32.ofNat k) (zM b I J) = zg_GP_errors_132 X w (Int32.ofNat (zEr f n e n).1) (Int32.ofNat (zEr f n e n).2.1) (Int32.ofNat (zEr f n e n).2.2) (zM b I J) := by
  have hhalf := zNp_half (e := e) hu
  have hcap := hs.2.2.2.2.2.2.2.2.2.2.2
  intro m
  induction m with
  | zero =>
    intro k hk
    have : k = zNp f n e := by omega
    subst this
    rw [zg_GP_errors_48_e, zob hs.1, zM_I, h.2.2.1, if_pos ((zn_le (by omega) (by omega)).mpr (Nat.le_refl _)), (zNp_spec f n e).1]
  | succ m ih =>
    intro k hk
    have hkN : k < zNp f n e := by omega
    have q1 := (h.2.2.2.2 k hkN).1
    have hmono := zF_mono (f := f) (n := n) (e := e) (show k < k + 1 by omega) (by omega)
    rw [zg_GP_errors_48_e, zob hs.1, zM_I, h.2.2.1, if_neg (fun q => absurd ((zn_le (by omega) (by omega)).mp q) (by omega)), zob hs.1, zM_P, hs.2.2.2.2.2.2.2.1, zrf, zix hs.2.2.1 (by omega) (by omega), q1, c_err66 X hs hn hn3 he hu hf h hkN (zF f n e (k + 1) - zF f n e k) _ (by omega) (Nat.le_refl _), zg_GP_errors_126_e, zn_add1, ih (k + 1) (by omega)]
noncomputable def zerA (f : Nat → Int) (n e u l : Nat) (w : Int32) : Int32 := if w = 0 then Int32.ofNat (zEr (zTf f n e u l) (zTn f n e u l) (zel e u l) (zTn f n e u l)).1 else if w = 1 then Int32.ofNat (zEr (zTf f n e u l) (zTn f n e u l) (zel e u l) (zTn f n e u l)).2.1 else Int32.ofNat (zEr (zTf f n e u l) (zTn f n e u l) (zel e u l) (zTn f n e u l)).2.2
theorem c_errors {n e u H : Nat} {f : Nat → Int} {l1 w : Int32} (hf : zfb f) (hu : zupto f n) (hn : n ≤ 300) (he20 : e ≤ 20) (hu20 : u ≤ 20) (hC : zCov I J 40 f n e u H) : ((w < 0 ∨ 2 < w ∨ ∀ l, l < H → l1 ≠ Int32.ofNat l) → zg_GP_errors_0 X 0 l1 w (zM b I J) = some (some (.int (-1)), zM b I J)) ∧ ∀ l, ¬ (w < 0 ∨ 2 < w) → l < H → l1 = Int32.ofNat l → zg_GP_errors_0 X 0 l1 w (zM b I J) = some (some (.int (zerA f n e u l w)), zM b I J) := by
  have hH9 := zHt_9 hu hn hC.2.1
  have e2 : (2 : Int32).toInt = 2 := rfl
  constructor
  · intro hb
    rw [zg_GP_errors_0_e, zg_GP_errors_24_e]
    by_cases c1 : l1 < 0
    · rw [if_pos c1]
    · obtain ⟨l, hl, rfl, -⟩ := zidx c1
      rw [if_neg c1, zo0, zM_P, zp0_4, zrf, zo40, zM_I, hC.1]
      by_cases c2 : l < H
      · rw [if_neg (fun q => absurd ((zn_le (by omega) (by omega)).mp q) (by omega))]
        rcases hb with hb | hb | hb
        · rw [if_pos hb]
        · by_cases c3 : w < 0
          · rw [if_pos c3]
          · rw [if_neg c3, if_neg (by rw [zi_le]; rw [zi_lt] at hb; omega)]
        · exact absurd rfl (hb l c2)
      · rw [if_pos ((zn_le (by omega) hl).mpr (by omega))]
  · rintro l hw hl rfl
    have h300 := zT_300 (e := e) (u := u) hu hn (l := l) (by omega)
    have hcap := zT_cap (e := e) (u := u) hu hn (l := l) (by omega)
    have hs : zLs b (49 + 6 * l) (zcap l) := ((zCvS_40 b).2.2.2.2.1 l (by omega)).2
    have hlv : zLv I J (49 + 6 * l) (zTf f n e u l) (zTn f n e u l) (zel e u l) := hC.2.2.2 l hl
    have hel : zel e u l ≤ 20 := by unfold zel; split <;> omega
    have lk := fun (k : Nat → Option (Option Value × zv_M)) => (show zv_iq (zM b I J) 41 (Int32.ofNat l) (fun j => zv_rf (zP b 41 j) k) = k (49 + 6 * l) from zcvlev (I := I) (J := J) (l := l) (k := k) (zCvS_40 b) (by omega))
    have main := c_err48 X (b := b) (w := w) hs hcap (by omega) hel (zT_up hu l) (zT_fb hf l) hlv (zNp (zTf f n e u l) (zTn f n e u l) (zel e u l)) 0 (by omega)
    have main' : zg_GP_errors_48 X w (49 + 6 * l) 0 0 0 0 (zM b I J) = _ := main
    rw [zg_GP_errors_0_e, if_neg (fun q => absurd ((zkl0 (by omega)).mp q) (by omega)), zo0, zM_P, zp0_4, zrf, zo40, zM_I, hC.1, if_neg (fun q => absurd ((zn_le (by omega) (by omega)).mp q) (by omega)), if_neg (fun q => hw (Or.inl q)), if_pos (by rw [zi_le]; have : ¬ 2 < w := fun q => hw (Or.inr q); rw [zi_lt] at this; omega), zg_GP_errors_26_e, zo0, zM_P, zp0_4, zrf, zo40, zp40_0, zrf, lk, main', zg_GP_errors_132_e, zg_GP_errors_139_e, zg_GP_errors_149_e, zg_GP_errors_151_e, zg_GP_errors_151_e]
    unfold zerA
    by_cases c0 : w = 0
    · rw [if_pos c0, if_pos c0]
    · by_cases c1 : w = 1
      · rw [if_neg c0, if_neg c0, if_pos c1, if_pos c1]
      · rw [if_neg c0, if_neg c0, if_neg c1, if_neg c1]
theorem m_err46 {l n e : Nat} {f : Nat → Int} {w : Int32} (hl : l < 12) (hn : n ≤ 300) (he : e ≤ 20) (hu : zupto f n) (hf : zfb f) (h : zML I J l f n e) : ∀ m i, i + m = n → (1 ≤ i → zg_M_errors_46 X 181 (Int32.ofNat l) w (Int32.ofNat (zEr f n e i).2.1) (Int32.ofNat (zEr f n e i).1) (Int32.ofNat (zEr f n e i).2.2) (Int32.ofNat i) (zM b I J) = zg_M_errors_127 X w (Int32.ofNat (zEr f n e n).2.1) (Int32.ofNat (zEr f n e n).1) (Int32.ofNat (zEr f n e n).2.2) (zM b I J)) ∧ (i = 0 → 0 < n → zg_M_errors_46 X 181 (Int32.ofNat l) w 0 (-1) 0 (Int32.ofNat i) (zM b I J) = zg_M_errors_127 X w (Int32.ofNat (zEr f n e n).2.1) (Int32.ofNat (zEr f n e n).1) (Int32.ofNat (zEr f n e n).2.2) (zM b I J)) := by
  intro m
  induction m with
  | zero =>
    intro i hi
    refine ⟨fun _ => ?_, fun h0 h1 => by omega⟩
    have : i = n := by omega
    subst this
    rw [zg_M_errors_46_e]
    simp only [zM_I, zM_J, zM_P, zM_wI, zM_wL, zrf, zo181, zp181_22, zx253 hl, h.1]
    rw [if_pos ((zn_le (by omega) (by omega)).mpr (Nat.le_refl _))]
  | succ m ih =>
    intro i hi
    have hin : i < n := by omega
    obtain ⟨g1, g2, g3⟩ := zpcI_spec (e := e) (f := f) hin
    have hrow := h.2.2.2.1 i hin
    have hg := m_guessOf X (b := b) (x := I (189 + l) i) hl (by omega) he hu hf h g1
    rw [hrow, show zgk f n e (zpcI f n e i) (f i) = zgi f n e i from rfl] at hg
    have hgl : zgi f n e i ≤ n := zgk_le
    have h2 := zEr_le (f := f) (n := n) (e := e) i (by omega)
    have h3 := zofE_le (f := f) (n := n) (e := e) (i := i) (by omega)
    have e0 : (0 : Int32).toInt = 0 := rfl
    have es : (Int32.ofNat (zgi f n e i) - Int32.ofNat i).toInt = (zgi f n e i : Int) - i := by
      rw [zi_sub (by rw [zn_int (by omega), zn_int (by omega)]; omega) (by rw [zn_int (by omega), zn_int (by omega)]; omega), zn_int (by omega), zn_int (by omega)]
    have st : ∀ l3 l4 l5, zg_M_errors_46 X 181 (Int32.ofNat l) w l3 l4 l5 (Int32.ofNat i) (zM b I J) = zg_M_errors_96 X 181 (Int32.ofNat l) w l3 l4 l5 (Int32.ofNat i) (Int32.ofNat (zofE f n e i)) (zM b I J) := fun l3 l4 l5 => by
      rw [zg_M_errors_46_e]
      simp only [zM_I, zM_J, zM_P, zM_wI, zM_wL, zrf, zo181, zp181_22, zp181_17, zx253 hl, h.1, m_pieceOf X hl (show n ≤ 301 by omega) hu h hin, zci, zmt188 hl, zmx189 hl (show i < 302 by omega), hg, zg_M_errors_94_e]
      rw [if_neg (fun q => absurd ((zn_le (by omega) (by omega)).mp q) (by omega))]
      unfold zofE
      by_cases c : i ≤ zgi f n e i
      · rw [if_pos (by rw [zi_le, e0, es]; omega), if_pos c, zn_sub c]
      · rw [if_neg (by rw [zi_le, e0, es]; omega), if_neg c]
        congr 1
        rw [zi_eq, zi_neg (by rw [es]; omega), es, zn_int (by omega)]; omega
    have ih1 := (ih (i + 1) (by omega)).1 (by omega)
    constructor
    · intro h1
      rw [st, zg_M_errors_96_e, zg_M_errors_113_e, zg_M_errors_121_e, zg_M_errors_121_e, zn_add, zn_add1]
      by_cases c : (zEr f n e i).1 < zofE f n e i
      · rw [if_pos ((zn_lt (by omega) (by omega)).mpr c)]
        rw [zEr, if_pos c] at ih1
        exact ih1
      · rw [if_neg (fun q => c ((zn_lt (by omega) (by omega)).mp q))]
        rw [zEr, if_neg c] at ih1
        exact ih1
    · intro h0 _
      subst h0
      have em : (-1 : Int32).toInt = -1 := rfl
      rw [st, zg_M_errors_96_e, zg_M_errors_113_e, zg_M_errors_121_e, if_pos (by rw [zi_lt, em, zn_int (by omega)]; omega), show (0 : Int32) = Int32.ofNat 0 from rfl, zn_add, zn_add1]
      rw [zEr] at ih1
      have ez : zEr f n e 0 = (0, 0, 0) := rfl
      rw [ez] at ih1
      by_cases c : 0 < zofE f n e 0
      · rw [if_pos c] at ih1
        exact ih1
      · rw [if_neg c] at ih1
        rw [show zofE f n e 0 = 0 by omega] at ih1 ⊢
        exact ih1
theorem m_errors {R : List Int32} {e u : Nat} {l1 w : Int32} (h : zRow I R e u) : ∃ I' J' H, zHt (zrf' R) R.length e u H ∧ zfrM I I' J J' ∧ ((w < 0 ∨ 2 < w ∨ ∀ l, l < H → l1 ≠ Int32.ofNat l) → zg_M_errors_0 X 181 l1 w (zM b I J) = some (some (.int (-1)), zM b I' J')) ∧ ∀ l, ¬ (w < 0 ∨ 2 < w) → l < H → l1 = Int32.ofNat l → zg_M_errors_0 X 181 l1 w (zM b I J) = some (some (.int (zerA (zrf' R) R.length e u l w)), zM b I' J') := by
  obtain ⟨I1, J1, H, k1, k2, k3⟩ := m_row X (b := b) (J := J) h e h.2.2.2.2.2.1
  have hu := h.2.2.2.2.2.2.2.2
  have hf := h.2.2.2.2.2.2.2.1
  have hH9 := zHt_9 hu h.1 k2.2.1
  have e1 : (1 : Int32).toInt = 1 := rfl
  have sub : (Int32.ofNat H - 1).toInt = (H : Int) - 1 := by
    rw [zi_sub (by rw [zn_int (by omega), e1]; omega) (by rw [zn_int (by omega), e1]; omega), zn_int (by omega), e1]
  have st : zg_M_errors_0 X 181 l1 w (zM b I J) = if l1 < 0 ∨ Int32.ofNat H - 1 < l1 then some (some (.int (-1)), zM b I1 J1) else if w < 0 ∨ 2 < w then some (some (.int (-1)), zM b I1 J1) else zg_M_errors_35 X 181 l1 w (zM b I1 J1) := by
    rw [zg_M_errors_0_e, zo181, zM_P, zp181_0, zrf, zw_0, zM_I, h.2.2.2.1, zo181, k1, zcv, zo181, zM_I, k2.1, m_isIn, zci, zif01, m_isIn, zci, zif01, zg_M_errors_33_e]
  refine ⟨I1, J1, H, k2.2.1, zfM_frM k3, fun hb => ?_, ?_⟩
  · rw [st]
    by_cases c1 : l1 < 0 ∨ Int32.ofNat H - 1 < l1
    · rw [if_pos c1]
    · rw [if_neg c1]
      by_cases c2 : w < 0 ∨ 2 < w
      · rw [if_pos c2]
      · exfalso
        rcases hb with hb | hb | hb
        · exact c2 (Or.inl hb)
        · exact c2 (Or.inr hb)
        · obtain ⟨l, hl, rfl, -⟩ := zidx (i := l1) (fun q => c1 (Or.inl q))
          rcases Nat.lt_or_ge l H with d | d
          · exact hb l d rfl
          · exact c1 (Or.inr (by rw [zi_lt, sub, zn_int hl]; omega))
  · rintro l hw hl rfl
    have h300 := zT_300 (e := e) (u := u) hu h.1 (l := l) (by omega)
    have hel : zel e u l ≤ 20 := by have := h.2.2.2.2.2.1; have := h.2.2.2.2.2.2.1; unfold zel; split <;> omega
    have hpos : 0 < zTn (zrf' R) R.length e u l := by
      rcases k2.2.1 with ⟨w1, w2⟩ | ⟨w1, -⟩
      · omega
      · exact zT_pos w1 l
    have main := (m_err46 X (b := b) (w := w) (show l < 12 by omega) h300 hel (zT_up hu l) (zT_fb hf l) (k2.2.2.2 l hl) (zTn (zrf' R) R.length e u l) 0 (by omega)).2 rfl hpos
    have main' : zg_M_errors_46 X 181 (Int32.ofNat l) w 0 (-1) 0 0 (zM b I1 J1) = _ := main
    have c1 : ¬ (Int32.ofNat l < 0 ∨ Int32.ofNat H - 1 < Int32.ofNat l) := by
      rintro (q | q)
      · exact absurd ((zkl0 (by omega)).mp q) (by omega)
      · rw [zi_lt, sub, zn_int (by omega)] at q; omega
    rw [st, if_neg c1, if_neg hw, zg_M_errors_35_e, main', zg_M_errors_127_e, zg_M_errors_136_e, zg_M_errors_145_e, zg_M_errors_147_e, zg_M_errors_147_e]
    unfold zerA
    by_cases c0 : w = 0
    · rw [if_pos c0, if_pos c0]
    · by_cases c1 : w = 1
      · rw [if_neg c0, if_neg c0, if_pos c1, if_pos c1]
      · rw [if_neg c0, if_neg c0, if_neg c1, if_neg c1, zg_M_errors_147_e]
end ZER
