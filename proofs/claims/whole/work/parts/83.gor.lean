/-! calls that only ask -/
theorem zGo_ro {kd : Nat} {co mo : zv_M → Option zv_R} {t : zST} {b b' : Bool} {I I1 : zI} {J J1 : zJ} {v : Value} (hi : zInv t I J) (h1 : co (zM b I J) = some (some v, zM b' I1 J1)) (hf : ∀ a, (a ≤ 32 ∨ (41 ≤ a ∧ a ≤ 108)) → I1 a = I a ∧ J1 a = J a) (h40 : ∀ j, j ≠ 3 → I1 40 j = I 40 j) (hh : ∀ a, 181 ≤ a → I1 a = I a) (h4 : zMS (I1 182) t.1 → zMI t I1 → ∃ I2 J2, mo (zM b' I1 J1) = some (some v, zM b' I2 J2) ∧ zMI t I2 ∧ ∀ a, a < 181 → I2 a = I1 a ∧ J2 a = J1 a) (hv : zkdV kd v := by first | exact Or.inl ⟨rfl, _, rfl⟩ | exact Or.inr ⟨rfl, _, rfl⟩) : ∃ v b' I1 J1 I2 J2 t', zkdV kd v ∧ co (zM b I J) = some (some v, zM b' I1 J1) ∧ mo (zM b' I1 J1) = some (some v, zM b' I2 J2) ∧ zInv t' I2 J2 :=
  zGo_mk hi hi.1 h1 (zCI_fr hf h40 hi.2.1) hh (fun hm => h4 hm.1 hm) hv
theorem zGo_r0 {kd : Nat} {co mo : zv_M → Option zv_R} {t : zST} {b : Bool} {I : zI} {J : zJ} {v : Value} (hi : zInv t I J) (h1 : co (zM b I J) = some (some v, zM b I J)) (h4 : zMS (I 182) t.1 → ∃ I2 J2, mo (zM b I J) = some (some v, zM b I2 J2) ∧ zMI t I2 ∧ ∀ a, a < 181 → I2 a = I a ∧ J2 a = J a) (hv : zkdV kd v := by first | exact Or.inl ⟨rfl, _, rfl⟩ | exact Or.inr ⟨rfl, _, rfl⟩) : ∃ v b' I1 J1 I2 J2 t', zkdV kd v ∧ co (zM b I J) = some (some v, zM b' I1 J1) ∧ mo (zM b' I1 J1) = some (some v, zM b' I2 J2) ∧ zInv t' I2 J2 :=
  zGo_ro hi h1 (fun _ _ => ⟨rfl, rfl⟩) (fun _ _ => rfl) (fun _ _ => rfl) (fun hm _ => h4 hm) hv
theorem zMI_all {t : zST} {I I' : zI} (h : ∀ a, a ≠ 185 → a ≠ 186 → a ≠ 256 → a ≠ 257 → I' a = I a) (hm : zMI t I) : zMI t I' := zMI_fr (h 182 (by decide) (by decide) (by decide) (by decide)) (h 183 (by decide) (by decide) (by decide) (by decide)) (h 187 (by decide) (by decide) (by decide) (by decide)) ⟨by rw [h 181 (by decide) (by decide) (by decide) (by decide)], by rw [h 181 (by decide) (by decide) (by decide) (by decide)], by rw [h 181 (by decide) (by decide) (by decide) (by decide)], by rw [h 181 (by decide) (by decide) (by decide) (by decide)]⟩ hm
section ZGR
variable (X : zv_X)
theorem zhkr {t : zST} {I : zI} {J : zJ} (hi : zInv t I J) : zKeys I 2 (zsK t.1) ∧ zKV (zsK t.1) ∧ zKR (zsK t.1) (zsR t.1) ∧ zMK (I 182) (zsK t.1) (zsR t.1) := ⟨hi.2.1.1.1, hi.1.1.1, zKR_of hi.1.1.1 hi.1.1.2.1, hi.2.2.1.1⟩
theorem go_count (x : Int32) : zGo (fun M => zg_GP_count_0 X 0 x M) (fun M => zg_M_count_0 X 181 x M) := fun t b I J hi => by
  obtain ⟨k1, k2, k3, k4⟩ := zhkr hi
  refine zGo_r0 hi (v := .int (zcnt x (zsK t.1))) ?_ (fun hm => ⟨I, J, m_count X hm.1 k3, hi.2.2, fun _ _ => ⟨rfl, rfl⟩⟩)
  show zg_GP_count_0 X 0 x (zM b I J) = _
  rw [zg_GP_count_0_e, zo0, zM_P, zp0_0, zrf, zo1, zp1_0, zrf, zo2, s_countOf X (zKy_2 b) k1 k2.1, zci]
theorem go_key (i : Int32) : zGo (fun M => zg_GP_key_0 X 0 i M) (fun M => zg_M_key_0 X 181 i M) := fun t b I J hi => by
  obtain ⟨k1, k2, k3, k4⟩ := zhkr hi
  have hl := k2.2.1
  obtain ⟨I2, a1, a2, -, a4⟩ := m_laysAll X (b := b) (J := J) k4 k3
  have m1 : (-1 : Int32).toInt = -1 := rfl
  have en : (Int32.ofNat (zsK t.1).length - 1).toInt = ((zsK t.1).length : Int) - 1 := by
    have o1 : (1 : Int32).toInt = 1 := rfl
    rw [zi_sub (by rw [zn_int (by omega), o1]; omega) (by rw [zn_int (by omega), o1]; omega), zn_int (by omega), o1]
  have hmi : zMI t I2 := zMI_all (fun a c1 c2 _ _ => a4 a c1 c2) hi.2.2
  have hfr : ∀ a, a < 181 → I2 a = I a ∧ J a = J a := fun a ha => ⟨a4 a (by omega) (by omega), rfl⟩
  have e0 : (0 : Int32).toInt = 0 := rfl
  by_cases c : i < 0
  · refine zGo_r0 hi (v := .int zN) ?_ (fun hm => ⟨I2, J, ?_, hmi, hfr⟩)
    · show zg_GP_key_0 X 0 i (zM b I J) = _
      rw [zg_GP_key_0_e, if_pos c, zg_GP_key_33_e, zg_GP_key_35_e]
      rfl
    · show zg_M_key_0 X 181 i (zM b I J) = _
      rw [zg_M_key_0_e, zo181, a1, zci, m_isIn, zci, zif01, if_pos (Or.inl c), zg_M_key_23_e, zg_M_key_25_e]
      rfl
  · obtain ⟨k, hk, rfl, -⟩ := zidx c
    by_cases d : k < (zsK t.1).length
    · refine zGo_r0 hi (v := .int (zksK (zsK t.1) k)) ?_ (fun hm => ⟨I2, J, ?_, hmi, hfr⟩)
      · show zg_GP_key_0 X 0 (Int32.ofNat k) (zM b I J) = _
        rw [zg_GP_key_0_e, if_neg c, zo0, zM_P, zp0_0, zrf, zo1, zp1_0, zrf, zo2, zM_I, k1.1, if_neg (fun q => absurd ((zn_le (by omega) (by omega)).mp q) (by omega)), zo0, zrf, zo1, zp1_0, zrf, zo2, zp2_0, zrf, zx3 (by omega), zg_GP_key_35_e, zks_row k1.2.1 d]
      · show zg_M_key_0 X 181 (Int32.ofNat k) (zM b I J) = _
        rw [zg_M_key_0_e, zo181, a1, zci, m_isIn, zci, zif01, if_neg (fun q => q.elim c (fun q => by rw [zi_lt, en, zn_int (by omega)] at q; omega)), zo181, zM_P, zp181_4, zrf, zx185 (by omega), zg_M_key_25_e, zM_I, zks_row a2 d]
    · refine zGo_r0 hi (v := .int zN) ?_ (fun hm => ⟨I2, J, ?_, hmi, hfr⟩)
      · show zg_GP_key_0 X 0 (Int32.ofNat k) (zM b I J) = _
        rw [zg_GP_key_0_e, if_neg c, zo0, zM_P, zp0_0, zrf, zo1, zp1_0, zrf, zo2, zM_I, k1.1, if_pos ((zn_le (by omega) (by omega)).mpr (by omega)), zg_GP_key_33_e, zg_GP_key_35_e]
        rfl
      · show zg_M_key_0 X 181 (Int32.ofNat k) (zM b I J) = _
        rw [zg_M_key_0_e, zo181, a1, zci, m_isIn, zci, zif01, if_pos (Or.inr (by rw [zi_lt, en, zn_int (by omega)]; omega)), zg_M_key_23_e, zg_M_key_25_e]
        rfl
theorem zltK_2 {A B : zKL} {x : Int32} (h1 : ∀ q ∈ A, q.1 < x) (h2 : ∀ q ∈ B, ¬ q.1 < x) : zltK (A ++ B) x = A.length := by
  unfold zltK
  rw [List.filter_append, List.filter_eq_self.mpr (fun q hq => by simpa using h1 q hq), List.filter_eq_nil_iff.mpr (fun q hq => by simpa using h2 q hq), List.append_nil]
theorem m_rank10 {x : Int32} {K : zKL} {b : Bool} {I : zI} {J : zJ} (hl : K.length ≤ 300) (hr : zrow (I 185) (K.map (·.1))) : ∀ (B A : zKL) (v : Nat), K = A ++ B → zg_M_rank_10 X 181 x (Int32.ofNat K.length) (Int32.ofNat v) (Int32.ofNat A.length) (zM b I J) = some (some (.int (Int32.ofNat (v + zltK B x))), zM b I J)
  | [], A, v, h => by
    have : K.length = A.length := by rw [h, List.append_nil]
    rw [zg_M_rank_10_e, if_pos ((zn_le (by omega) (by omega)).mpr (by omega)), zg_M_rank_41_e]
    rfl
  | q :: B, A, v, h => by
    have hlen : K.length = A.length + (B.length + 1) := by rw [h]; simp
    have hq : I 185 A.length = q.1 := by
      have := hr
      rw [h, List.map_append, List.map_cons] at this
      have e := zrow_get this
      rw [List.length_map] at e
      exact e
    have ih := m_rank10 (x := x) (b := b) (J := J) hl hr B (A ++ [q]) (v + (if q.1 < x then 1 else 0)) (by rw [h]; simp)
    rw [List.length_append] at ih
    have ih' : zg_M_rank_10 X 181 x (Int32.ofNat K.length) (Int32.ofNat (v + (if q.1 < x then 1 else 0))) (Int32.ofNat (A.length + 1)) (zM b I J) = some (some (.int (Int32.ofNat (v + (if q.1 < x then 1 else 0) + zltK B x))), zM b I J) := ih
    have ez : zltK (q :: B) x = (if q.1 < x then 1 else 0) + zltK B x := by
      unfold zltK
      by_cases c : q.1 < x
      · rw [List.filter_cons_of_pos (by simpa using c), List.length_cons, if_pos c]; omega
      · rw [List.filter_cons_of_neg (by simpa using c), if_neg c]; omega
    rw [zg_M_rank_10_e, if_neg (fun q => absurd ((zn_le (by omega) (by omega)).mp q) (by omega)), zo181, zM_P, zp181_4, zrf, zx185 (by omega), zM_I, hq, zg_M_rank_32_e, zg_M_rank_33_e, zg_M_rank_33_e, zn_add1, ez]
    by_cases c : q.1 < x
    · rw [if_neg (by rw [zi_le]; rw [zi_lt] at c; omega), zn_add1]
      rw [if_pos c] at ih' ⊢
      rw [ih', show v + 1 + zltK B x = v + (1 + zltK B x) by omega]
    · rw [if_pos (by rw [zi_le]; rw [zi_lt] at c; omega), Int32.add_zero]
      rw [if_neg c] at ih' ⊢
      rw [Nat.add_zero] at ih'
      rw [ih', Nat.zero_add]
theorem go_rank (x : Int32) : zGo (fun M => zg_GP_rank_0 X 0 x M) (fun M => zg_M_rank_0 X 181 x M) := fun t b I J hi => by
  obtain ⟨k1, k2, k3, k4⟩ := zhkr hi
  obtain ⟨A, B, hw, h1, h2⟩ := zsplit x (zsK t.1) k2.1
  have e : zltK (zsK t.1) x = A.length := by rw [hw]; exact zltK_2 h1 h2
  refine zGo_r0 hi (v := .int (Int32.ofNat (zltK (zsK t.1) x))) ?_ (fun hm => ?_)
  · show zg_GP_rank_0 X 0 x (zM b I J) = _
    rw [zg_GP_rank_0_e, zo0, zM_P, zp0_0, zrf, zo1, zp1_0, zrf, zo2, s_below X (zKy_2 b) (hw ▸ k1) h1 h2, zci, e]
  · obtain ⟨I2, a1, a2, -, a4⟩ := m_laysAll X (b := b) (J := J) hm.1 k3
    have := m_rank10 X (x := x) (b := b) (J := J) k2.2.1 a2 (zsK t.1) [] 0 rfl
    rw [Nat.zero_add] at this
    have this' : zg_M_rank_10 X 181 x (Int32.ofNat (zsK t.1).length) 0 0 (zM b I2 J) = _ := this
    refine ⟨I2, J, ?_, zMI_all (fun a c1 c2 _ _ => a4 a c1 c2) hi.2.2, fun a ha => ⟨a4 a (by omega) (by omega), rfl⟩⟩
    show zg_M_rank_0 X 181 x (zM b I J) = _
    rw [zg_M_rank_0_e, zo181, a1, zci, this']
/-! ranges -/
def zrtm (w : Int32) (q : Int32 × Int32) : Int64 := if w = 0 then 1 else if w = 1 then Int32.toInt64 q.2 else Int32.toInt64 q.1 * Int32.toInt64 q.2
def zrs (w : Int32) (a : Int64) (L : zKL) : Int64 := L.foldl (fun a q => a + zrtm w q) a
theorem c_rng33 {y w : Int32} {K : zKL} {b : Bool} {I : zI} {J : zJ} (hk : zKeys I 2 K) : ∀ (B A : zKL) (a : Int64), K = A ++ B → zg_GP_range_33 X y w 2 a (Int32.ofNat A.length) (zM b I J) = some (some (.long (zrs w a (B.takeWhile (fun q => decide (¬ y < q.1))))), zM b I J)
  | [], A, a, h => by
    have hl := hk.2.2.2
    have : K.length = A.length := by rw [h, List.append_nil]
    rw [zg_GP_range_33_e, zo2, zM_I, hk.1, if_pos ((zn_le (by omega) (by omega)).mpr (by omega)), zg_GP_range_115_e]
    rfl
  | q :: B, A, a, h => by
    have hl := hk.2.2.2
    have hlen : K.length = A.length + (B.length + 1) := by rw [h]; simp
    have h3 : I 3 A.length = q.1 := by
      have := hk.2.1
      rw [h, List.map_append, List.map_cons] at this
      have e := zrow_get this
      rw [List.length_map] at e
      exact e
    have h4 : I 4 A.length = q.2 := by
      have := hk.2.2.1
      rw [h, List.map_append, List.map_cons] at this
      have e := zrow_get this
      rw [List.length_map] at e
      exact e
    have ih := c_rng33 (y := y) (w := w) (b := b) (J := J) hk B (A ++ [q]) (a + zrtm w q) (by rw [h]; simp)
    rw [List.length_append] at ih
    have ih' : zg_GP_range_33 X y w 2 (a + zrtm w q) (Int32.ofNat (A.length + 1)) (zM b I J) = _ := ih
    rw [zg_GP_range_33_e, zo2, zM_I, hk.1, if_neg (fun q => absurd ((zn_le (by omega) (by omega)).mp q) (by omega)), zo2, zM_P, zp2_0, zrf, zx3 (by omega), h3]
    by_cases c : y < q.1
    · rw [if_pos c, zg_GP_range_115_e, List.takeWhile_cons_of_neg (by simpa using c)]
      rfl
    · rw [if_neg c, zg_GP_range_68_e, zg_GP_range_87_e, zo2, zM_P, zp2_1, zrf, zx4 (by omega), zo2, zp2_0, zrf, zx3 (by omega), zo2, zrf, zx4 (by omega), zM_I, h3, h4]
      simp only [zg_GP_range_106_e, zg_GP_range_109_e, zn_add1]
      rw [List.takeWhile_cons_of_pos (by simpa using c)]
      show _ = some (some (Value.long (zrs w (a + zrtm w q) (B.takeWhile (fun q => decide (¬ y < q.1))))), zM b I J)
      by_cases c0 : w = 0
      · have e : zrtm w q = 1 := by unfold zrtm; rw [if_pos c0]
        rw [e] at ih' ⊢
        rw [if_pos c0]
        exact ih'
      · by_cases c1 : w = 1
        · have e : zrtm w q = Int32.toInt64 q.2 := by unfold zrtm; rw [if_neg c0, if_pos c1]
          rw [e] at ih' ⊢
          rw [if_neg c0, if_pos c1]
          exact ih'
        · have e : zrtm w q = Int32.toInt64 q.1 * Int32.toInt64 q.2 := by unfold zrtm; rw [if_neg c0, if_neg c1]
          rw [e] at ih' ⊢
          rw [if_neg c0, if_neg c1]
          exact ih'
theorem m_rng25 {x y w : Int32} {K : zKL} {b : Bool} {I : zI} {J : zJ} (hl : K.length ≤ 300) (hr1 : zrow (I 185) (K.map (·.1))) (hr2 : zrow (I 186) (K.map (·.2))) : ∀ (B A : zKL) (a : Int64), K = A ++ B → zg_M_range_25 X 181 x y w (Int32.ofNat K.length) a (Int32.ofNat A.length) (zM b I J) = some (some (.long (zrs w a (B.filter (fun q => decide (¬ (q.1 < x ∨ y < q.1)))))), zM b I J)
  | [], A, a, h => by
    have : K.length = A.length := by rw [h, List.append_nil]
    rw [zg_M_range_25_e, if_pos ((zn_le (by omega) (by omega)).mpr (by omega)), zg_M_range_99_e]
    rfl
  | q :: B, A, a, h => by
    have hlen : K.length = A.length + (B.length + 1) := by rw [h]; simp
    have h3 : I 185 A.length = q.1 := by
      have := hr1
      rw [h, List.map_append, List.map_cons] at this
      have e := zrow_get this
      rw [List.length_map] at e
      exact e
    have h4 : I 186 A.length = q.2 := by
      have := hr2
      rw [h, List.map_append, List.map_cons] at this
      have e := zrow_get this
      rw [List.length_map] at e
      exact e
    have step : ∀ a', zg_M_range_25 X 181 x y w (Int32.ofNat K.length) a' (Int32.ofNat (A.length + 1)) (zM b I J) = some (some (.long (zrs w a' (B.filter (fun q => decide (¬ (q.1 < x ∨ y < q.1)))))), zM b I J) := fun a' => by
      have ih := m_rng25 (x := x) (y := y) (w := w) (b := b) (J := J) hl hr1 hr2 B (A ++ [q]) a' (by rw [h]; simp)
      rw [List.length_append] at ih
      exact ih
    rw [zg_M_range_25_e, if_neg (fun q => absurd ((zn_le (by omega) (by omega)).mp q) (by omega)), zo181, zM_P, zp181_4, zrf, zx185 (by omega), zM_I, h3, m_isIn, zci, zif01]
    by_cases c : q.1 < x ∨ y < q.1
    · rw [if_pos c, zg_M_range_93_e, zn_add1, step, List.filter_cons_of_neg (by rw [decide_eq_true_eq]; exact fun z => z c)]
    · rw [if_neg c, zg_M_range_57_e, zg_M_range_73_e, zo181, zM_P, zp181_5, zrf, zx186 (by omega), zo181, zp181_4, zrf, zx185 (by omega), zo181, zrf, zx186 (by omega), zM_I, h3, h4]
      simp only [zg_M_range_90_e, zg_M_range_93_e, zn_add1]
      rw [List.filter_cons_of_pos (by rw [decide_eq_true_eq]; exact c)]
      have st := step (a + zrtm w q)
      show _ = some (some (Value.long (zrs w (a + zrtm w q) (B.filter (fun q => decide (¬ (q.1 < x ∨ y < q.1)))))), zM b I J)
      by_cases c0 : w = 0
      · have e : zrtm w q = 1 := by unfold zrtm; rw [if_pos c0]
        rw [e] at st ⊢
        rw [if_pos c0]
        exact st
      · by_cases c1 : w = 1
        · have e : zrtm w q = Int32.toInt64 q.2 := by unfold zrtm; rw [if_neg c0, if_pos c1]
          rw [e] at st ⊢
          rw [if_neg c0, if_pos c1]
          exact st
        · have e : zrtm w q = Int32.toInt64 q.1 * Int32.toInt64 q.2 := by unfold zrtm; rw [if_neg c0, if_neg c1]
          rw [e] at st ⊢
          rw [if_neg c0, if_neg c1]
          exact st
theorem zflt_tw {x y : Int32} : ∀ {B : zKL}, zSrt B → (∀ q ∈ B, ¬ q.1 < x) → B.filter (fun q => decide (¬ (q.1 < x ∨ y < q.1))) = B.takeWhile (fun q => decide (¬ y < q.1))
  | [], _, _ => rfl
  | q :: B, hs, h => by
    have hs' := List.pairwise_cons.mp hs
    by_cases c : y < q.1
    · rw [List.takeWhile_cons_of_neg (by simpa using c), List.filter_eq_nil_iff.mpr]
      intro r hr
      have : y < r.1 := by
        rcases List.mem_cons.mp hr with e | e
        · rw [e]; exact c
        · have := hs'.1 r e
          rw [zi_lt] at *; omega
      simp [this]
    · rw [List.takeWhile_cons_of_pos (by simpa using c), List.filter_cons_of_pos (by
        have := h q List.mem_cons_self
        simp [this, c]), zflt_tw hs'.2 (fun r hr => h r (List.mem_cons_of_mem _ hr))]
theorem go_range (x y w : Int32) : zGoK 1 (fun M => zg_GP_range_0 X 0 x y w M) (fun M => zg_M_range_0 X 181 x y w M) := fun t b I J hi => by
  obtain ⟨k1, k2, k3, k4⟩ := zhkr hi
  have e0 : (0 : Int32).toInt = 0 := rfl
  have e2 : (2 : Int32).toInt = 2 := rfl
  by_cases c : w < 0 ∨ 2 < w
  · refine zGo_r0 hi (v := .long (-1)) ?_ (fun hm => ⟨I, J, ?_, hi.2.2, fun _ _ => ⟨rfl, rfl⟩⟩)
    · show zg_GP_range_0 X 0 x y w (zM b I J) = _
      rw [zg_GP_range_0_e, zg_GP_range_9_e]
      by_cases d : w < 0
      · rw [if_pos d]
      · rw [if_neg d, if_neg (fun q => (c.resolve_left d) |> fun z => by rw [zi_lt] at z; rw [zi_le] at q; omega)]
    · show zg_M_range_0 X 181 x y w (zM b I J) = _
      rw [zg_M_range_0_e, m_isIn, zci, zif01, if_pos c]
  · obtain ⟨A, B, hw, h1, h2⟩ := zsplit x (zsK t.1) k2.1
    have hsB : zSrt B := (List.pairwise_append.mp (show (A ++ B).Pairwise (fun p q => p.1 < q.1) from hw ▸ k2.1)).2.1
    have r1 := c_rng33 X (y := y) (w := w) (b := b) (J := J) k1 B A 0 hw
    refine zGo_r0 hi (v := .long (zrs w 0 (B.takeWhile (fun q => decide (¬ y < q.1))))) ?_ (fun hm => ?_)
    · show zg_GP_range_0 X 0 x y w (zM b I J) = _
      rw [zg_GP_range_0_e, if_neg (fun q => c (Or.inl q)), if_pos (by
        have : ¬ 2 < w := fun q => c (Or.inr q)
        rw [zi_lt] at this; rw [zi_le]; omega), zg_GP_range_13_e, zo0, zM_P, zp0_0, zrf, zo1, zp1_0, zrf, zo2, s_below X (zKy_2 b) (hw ▸ k1) h1 h2, zci, r1]
    · obtain ⟨I2, a1, a2, a3, a4⟩ := m_laysAll X (b := b) (J := J) hm.1 k3
      have := m_rng25 X (x := x) (y := y) (w := w) (b := b) (J := J) k2.2.1 a2 a3 (zsK t.1) [] 0 rfl
      have this' : zg_M_range_25 X 181 x y w (Int32.ofNat (zsK t.1).length) 0 0 (zM b I2 J) = _ := this
      refine ⟨I2, J, ?_, zMI_all (fun a c1 c2 _ _ => a4 a c1 c2) hi.2.2, fun a ha => ⟨a4 a (by omega) (by omega), rfl⟩⟩
      show zg_M_range_0 X 181 x y w (zM b I J) = _
      rw [zg_M_range_0_e, m_isIn, zci, zif01, if_neg c, zg_M_range_13_e, zo181, a1, zci, this']
      have : (zsK t.1).filter (fun q => decide (¬ (q.1 < x ∨ y < q.1))) = B.takeWhile (fun q => decide (¬ y < q.1)) := by
        rw [hw, List.filter_append, List.filter_eq_nil_iff.mpr (fun q hq => by simp [h1 q hq]), List.nil_append, zflt_tw hsB h2]
      rw [this]
theorem go_cell (i : Int32) : zGo (fun M => zg_GP_cell_0 X 0 i M) (fun M => zg_M_cell_0 X 181 i M) := fun t b I J hi =>
  zGo_r0 hi (c_cell X hi.2.1.1.2.2.2.2.2.2.1 i) (fun hm => ⟨I, J, m_cell X hm.2.2.2.2.1 i, hi.2.2, fun _ _ => ⟨rfl, rfl⟩⟩)
theorem go_boxed (i w : Int32) : zGo (fun M => zg_GP_boxed_0 X 0 i w M) (fun M => zg_M_boxed_0 X 181 i w M) := fun t b I J hi => by
  have hk := hi.1.1.2.2.2.2.2.2.2.2
  obtain ⟨ans, ha⟩ := zboxed_ex hk i w
  exact zGo_r0 hi (c_boxed X (hi.2.1.1.2.2.2.2.2.2.2) hk ha) (fun hm => ⟨I, J, m_boxed X hm.2.2.2.2.2 hk ha, hi.2.2, fun _ _ => ⟨rfl, rfl⟩⟩)
theorem go_bestOrder : zGo (fun M => zg_GP_bestOrder_0 X 0 M) (fun M => zg_M_bestOrder_0 X 181 M) := fun t b I J hi => by
  have hk := hi.1.1.2.2.2.2.2.2.2.2
  exact zGo_r0 hi (c_bestOrder X (hi.2.1.1.2.2.2.2.2.2.2) hk) (fun hm => ⟨I, J, m_bestOrder X hm.2.2.2.2.2 hk, hi.2.2, fun _ _ => ⟨rfl, rfl⟩⟩)
theorem go_passes (x l : Int32) : zGo (fun M => zg_GP_passes_0 X 0 x l M) (fun M => zg_M_passes_0 X 181 x l M) := fun t b I J hi => by
  obtain ⟨k1, k2, k3, k4⟩ := zhkr hi
  obtain ⟨m, m1, m2, m3⟩ := zE_m hi.1.1
  obtain ⟨h, h1, h2⟩ := zE_h hi.1.1
  have hT := hi.2.1.1.2.2.2.1
  obtain ⟨I1, a1, a2⟩ := c_passes X (b := b) (J := J) (x := x) (l := l) (m := m) (hs := h) (wd := zsT t.1 7) k1 k2.1 k2.2.2.2 ⟨m2, m3⟩ h2 (by rw [← m1]; exact hT 5 (by decide)) (by rw [← h1]; exact hT 6 (by decide)) (hT 7 (by decide))
  refine zGo_ro hi a1 (fun a ha => ⟨a2 a (by omega) (by omega), rfl⟩) (fun j _ => by rw [a2 40 (by decide) (by decide)]) (fun a ha => a2 a (by omega) (by omega)) (fun hm hmi => ?_)
  obtain ⟨I2, b1, b2⟩ := m_passes X (b := true) (J := J) (x := x) (l := l) (m := m) (hs := h) (wd := zsT t.1 7) hm.1 k3 k2.2.2.2 ⟨m2, m3⟩ h2 (by rw [← m1]; exact hm.2.1 5 (by decide)) (by rw [← h1]; exact hm.2.1 6 (by decide)) (hm.2.1 7 (by decide))
  exact ⟨I2, J, b1, zMI_all b2 hmi, fun a ha => ⟨b2 a (by omega) (by omega) (by omega) (by omega), rfl⟩⟩
theorem go_falses (x y l : Int32) : zGo (fun M => zg_GP_falses_0 X 0 x y l M) (fun M => zg_M_falses_0 X 181 x y l M) := fun t b I J hi => by
  obtain ⟨k1, k2, k3, k4⟩ := zhkr hi
  obtain ⟨m, m1, m2, m3⟩ := zE_m hi.1.1
  obtain ⟨h, h1, h2⟩ := zE_h hi.1.1
  have hT := hi.2.1.1.2.2.2.1
  obtain ⟨b', I1, a1, a2⟩ := c_falses X (b := b) (J := J) (a := x) (c := y) (l := l) (m := m) (hs := h) (wd := zsT t.1 7) k1 k2.1 k2.2.2.2 k2.2.2.1 ⟨m2, m3⟩ h2 (by rw [← m1]; exact hT 5 (by decide)) (by rw [← h1]; exact hT 6 (by decide)) (hT 7 (by decide))
  refine zGo_ro hi a1 (fun a ha => ⟨a2 a (by omega) (by omega), rfl⟩) (fun j _ => by rw [a2 40 (by decide) (by decide)]) (fun a ha => a2 a (by omega) (by omega)) (fun hm hmi => ?_)
  obtain ⟨I2, b1, b2⟩ := m_falses X (b := b') (J := J) (a := x) (c := y) (l := l) (m := m) (hs := h) (wd := zsT t.1 7) hm.1 k3 k2.2.2.2 ⟨m2, m3⟩ h2 (by rw [← m1]; exact hm.2.1 5 (by decide)) (by rw [← h1]; exact hm.2.1 6 (by decide)) (hm.2.1 7 (by decide))
  exact ⟨I2, J, b1, zMI_all b2 hmi, fun a ha => ⟨b2 a (by omega) (by omega) (by omega) (by omega), rfl⟩⟩
theorem go_poison (w : Int32) : zGo (fun M => zg_GP_poison_0 X 0 w M) (fun M => zg_M_poison_0 X 181 w M) := fun t b I J hi => by
  obtain ⟨k1, k2, k3, k4⟩ := zhkr hi
  obtain ⟨e1, e2⟩ := zE_e hi.1.1
  obtain ⟨u1, u2⟩ := zE_u hi.1.1
  have hT := hi.2.1.1.2.2.2.1
  obtain ⟨I1, J1, a1, a2⟩ := c_poison X (b := b) (J := J) (w := w) (e := zEe t.1) (u := zEu t.1) k1 k2.1 k2.2.2.2 k2.2.2.1 e2 u2 (by rw [← e1]; exact hT 0 (by decide)) (by rw [← u1]; exact hT 1 (by decide))
  refine zGo_ro hi a1 (fun a ha => a2 a (by omega) (by omega)) (fun j _ => by rw [(a2 40 (by decide) (by decide)).1]) (fun a ha => (a2 a (by omega) (by omega)).1) (fun hm hmi => ?_)
  obtain ⟨I2, J2, b1, b2, b3, b4⟩ := m_poison X (b := b) (J := J1) (w := w) (e := zEe t.1) hm.1 k3 k2.2.2.2 e2 (by rw [← e1]; exact hm.2.1 0 (by decide))
  exact ⟨I2, J2, b1, zMI_fr (b3 182 (by decide) (by decide) (by decide) (by decide)) (b3 183 (by decide) (by decide) (by decide) (by decide)) (b3 187 (by decide) (by decide) (by decide) (by decide)) ⟨b4 3 (by decide), b4 7 (by decide), b4 14 (by decide), b4 15 (by decide)⟩ hmi, b2⟩
theorem go_bestSlack (w : Int32) : zGo (fun M => zg_GP_bestSlack_0 X 0 w M) (fun M => zg_M_bestSlack_0 X 181 w M) := fun t b I J hi => by
  obtain ⟨u1, u2⟩ := zE_u hi.1.1
  have hT := hi.2.1.1.2.2.2.1
  obtain ⟨I1, J1, a1, a2⟩ := c_bestSlack X (b := b) (J := J) (w := w) (u := zEu t.1) (zrf_fb hi.1.1.2.2.1) (zrf_up hi.1.1.2.1.1) hi.1.1.2.1.2 u2 hi.2.1.1.2.1 (by rw [← u1]; exact hT 1 (by decide)) (zrow_i hi.2.1.1.2.2.1)
  refine zGo_ro hi a1 (fun a ha => a2 a (by omega)) (fun j _ => by rw [(a2 40 (by decide)).1]) (fun a ha => (a2 a (by omega)).1) (fun hm hmi => ?_)
  obtain ⟨I2, J2, b1, b2⟩ := m_bestSlack X (b := b) (J := J1) (w := w) (zRow_of hi.1.1 hm)
  exact ⟨I2, J2, b1, zMI_frM b2 hmi, b2.1⟩
theorem go_fault (w : Int32) : zGo (fun M => zg_GP_fault_0 X 0 w M) (fun M => zg_M_fault_0 X 181 w M) := fun t b I J hi => by
  refine zGo_r0 hi (v := .int (if w = 0 then t.2.2.2.2.1 else if w = 1 then t.2.2.2.2.2 else -1)) ?_ (fun hm => ⟨I, J, ?_, hi.2.2, fun _ _ => ⟨rfl, rfl⟩⟩)
  · show zg_GP_fault_0 X 0 w (zM b I J) = _
    rw [zg_GP_fault_0_e, zg_GP_fault_12_e, zg_GP_fault_27_e, zo0, zM_P, zp0_3, zrf, zo31, zM_I, hi.2.1.2.2.2.2.1, zo0, zrf, zo31, hi.2.1.2.2.2.2.2, zg_GP_fault_28_e, zg_GP_fault_28_e]
    split
    · rfl
    · split <;> rfl
  · show zg_M_fault_0 X 181 w (zM b I J) = _
    rw [zg_M_fault_0_e, zg_M_fault_11_e, zg_M_fault_23_e, zo181, zM_I, hi.2.2.2.2.2.1, zo181, hi.2.2.2.2.2.2, zg_M_fault_24_e, zg_M_fault_24_e, zg_M_fault_24_e]
    split
    · rfl
    · split <;> rfl
end ZGR
