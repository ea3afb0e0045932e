/-! searching: by halves, level by level -/
theorem zLn_ex (f : Nat → Int) (e a : Nat) (P Q : Int) : ∀ c, a < c → ∃ L, zLn f e a c P Q L
  | 0, h => by omega
  | c + 1, h => by
    rcases Nat.lt_or_ge a c with d | d
    · obtain ⟨L, h1, t, h2, h3, h4⟩ := zLn_ex f e a P Q c d
      rcases Int.lt_or_le L (Q * ((c : Int) - e) - P * f c) with q | q
      · refine ⟨_, fun s s1 s2 => ?_, c, by omega, by omega, rfl⟩
        rcases Nat.lt_or_ge s c with w | w
        · have := h1 s s1 w; omega
        · have : s = c := by omega
          rw [this]; exact Int.le_refl _
      · refine ⟨L, fun s s1 s2 => ?_, t, h2, by omega, h4⟩
        rcases Nat.lt_or_ge s c with w | w
        · exact h1 s s1 w
        · have : s = c := by omega
          rw [this]; exact q
    · have : a = c := by omega
      subst this
      refine ⟨_, fun s s1 s2 => ?_, a, Nat.le_refl _, by omega, rfl⟩
      have : s = a := by omega
      rw [this]; exact Int.le_refl _
noncomputable def zLk (f : Nat → Int) (n e k : Nat) : Int := Classical.epsilon (zLn f e (zF f n e k) (zF f n e (k + 1)) (zPk f n e k) (zQk f n e k))
theorem zLk_spec {f : Nat → Int} {n e k : Nat} (hk : k < zNp f n e) : zLn f e (zF f n e k) (zF f n e (k + 1)) (zPk f n e k) (zQk f n e k) (zLk f n e k) :=
  Classical.epsilon_spec (zLn_ex f e _ _ _ _ (zF_mono (show k < k + 1 by omega) (by omega)))
/-- the guess of a piece -/
noncomputable def zgk (f : Nat → Int) (n e k : Nat) (x : Int) : Nat := (zgv (zPk f n e k) (zQk f n e k) (zLk f n e k) (zF f n e (k + 1)) x).toNat
theorem zgk_le {f : Nat → Int} {n e k : Nat} {x : Int} : zgk f n e k x ≤ n := by
  have := zF_le f n e (k + 1)
  unfold zgk zgv
  omega
def zbs (g : Nat → Bool) : Nat → Nat → Nat → Nat × Nat
  | 0, lo, _ => (lo, 0)
  | m + 1, lo, hi => if hi ≤ lo then (lo, 0) else if g ((lo + hi) / 2) = true then ((zbs g m ((lo + hi) / 2 + 1) hi).1, (zbs g m ((lo + hi) / 2 + 1) hi).2 + 1) else ((zbs g m lo ((lo + hi) / 2)).1, (zbs g m lo ((lo + hi) / 2)).2 + 1)
theorem zbs_le (g : Nat → Bool) : ∀ m lo hi, (zbs g m lo hi).1 ≤ max lo hi
  | 0, lo, hi => by simp only [zbs]; omega
  | m + 1, lo, hi => by
    rw [zbs]
    split
    · simp only; omega
    · split
      · have := zbs_le g m ((lo + hi) / 2 + 1) hi
        simp only; omega
      · have := zbs_le g m lo ((lo + hi) / 2)
        simp only; omega
theorem zbs_cnt (g : Nat → Bool) : ∀ m lo hi, (zbs g m lo hi).2 ≤ m
  | 0, lo, hi => by simp only [zbs]; omega
  | m + 1, lo, hi => by
    rw [zbs]
    split
    · simp only; omega
    · split
      · have := zbs_cnt g m ((lo + hi) / 2 + 1) hi
        simp only; omega
      · have := zbs_cnt g m lo ((lo + hi) / 2)
        simp only; omega
section ZSK
variable (X : zv_X) {b : Bool}
theorem c_halve14 {J : zJ} {cv ar N n : Nat} {g : Nat → Bool} {x : Int32} (hcv : zSH[cv]? = some (.inr 1)) (har : zSH[ar]? = some (.inl (0, N))) (hN : N < 2 ^ 20) (hn : n ≤ N) (hne : ar ≠ cv) : ∀ (m lo hi c : Nat) (I : zI), m ≤ 32 → lo ≤ 2 ^ 20 → hi ≤ n → hi - lo < 2 ^ m → I cv 3 = Int32.ofNat c → (∀ i, i < n → (g i = true ↔ I ar i < x)) → ∃ I', zg_Cover_halve_14 X cv ar x (Int32.ofNat lo) (Int32.ofNat hi) (Int32.ofNat (32 - m)) (zM b I J) = some (some (.int (Int32.ofNat (zbs g m lo hi).1)), zM b I' J) ∧ I' cv 3 = Int32.ofNat (c + (zbs g m lo hi).2) ∧ (∀ j, j ≠ 3 → I' cv j = I cv j) ∧ ∀ a, a ≠ cv → I' a = I a := by
  intro m
  induction m with
  | zero =>
    intro lo hi c I _ hlo hhi hd hc hg
    refine ⟨I, ?_, hc, fun _ _ => rfl, fun _ _ => rfl⟩
    rw [zg_Cover_halve_14_e, if_pos (by decide), zg_Cover_halve_75_e]
    rfl
  | succ m ih =>
    intro lo hi c I hm hlo hhi hd hc hg
    have st : Int32.ofNat (32 - (m + 1)) + 1 = Int32.ofNat (32 - m) := by rw [zn_add1]; congr 1; omega
    have hmid : (Int32.ofNat lo + Int32.ofNat hi) / 2 = Int32.ofNat ((lo + hi) / 2) := by rw [zn_add, zkd2 (by omega)]
    have hp : 2 ^ (m + 1) = 2 * 2 ^ m := by rw [Nat.pow_succ]; omega
    rw [zbs, zg_Cover_halve_14_e, if_neg (fun q => absurd ((zkh32 (by omega)).mp q) (by omega))]
    by_cases hl : hi ≤ lo
    · rw [if_pos ((zn_le (by omega) (by omega)).mpr hl), if_pos hl, zg_Cover_halve_75_e]
      exact ⟨I, rfl, hc, fun _ _ => rfl, fun _ _ => rfl⟩
    · rw [if_neg (fun q => hl ((zn_le (by omega) (by omega)).mp q)), if_neg hl, if_neg (by decide), zob hcv, zob hcv, zM_I, hc, zn_add1, zM_wI, hmid, zix har (by omega) (by omega), zM_I, zst_ne hne]
      have hgm := hg ((lo + hi) / 2) (by omega)
      have hg' : ∀ i, i < n → (g i = true ↔ zst I cv 3 (Int32.ofNat (c + 1)) ar i < x) := fun i hi => by rw [zst_ne hne]; exact hg i hi
      by_cases c1 : g ((lo + hi) / 2) = true
      · have := hgm.mp c1
        rw [if_neg (by rw [zi_le]; rw [zi_lt] at this; omega), if_pos c1, zg_Cover_halve_69_e, zn_add1, st]
        obtain ⟨I', f1, f2, f3, f4⟩ := ih ((lo + hi) / 2 + 1) hi (c + 1) _ (by omega) (by omega) hhi (by omega) zst_self hg'
        exact ⟨I', f1, by rw [f2]; congr 1; simp only; omega, fun j hj => by rw [f3 j hj, zst_off hj], fun a ha => by rw [f4 a ha, zst_ne ha]⟩
      · have : ¬ I ar ((lo + hi) / 2) < x := fun q => c1 (hgm.mpr q)
        rw [if_pos (by rw [zi_le]; rw [zi_lt] at this; omega), if_neg c1, zg_Cover_halve_65_e, zg_Cover_halve_69_e, st]
        obtain ⟨I', f1, f2, f3, f4⟩ := ih lo ((lo + hi) / 2) (c + 1) _ (by omega) (by omega) (by omega) (by omega) zst_self hg'
        exact ⟨I', f1, by rw [f2]; congr 1; simp only; omega, fun j hj => by rw [f3 j hj, zst_off hj], fun a ha => by rw [f4 a ha, zst_ne ha]⟩
theorem c_halve {I : zI} {J : zJ} {cv ar N n lo hi c : Nat} {g : Nat → Bool} {x : Int32} (hcv : zSH[cv]? = some (.inr 1)) (har : zSH[ar]? = some (.inl (0, N))) (hN : N < 2 ^ 20) (hn : n ≤ N) (hne : ar ≠ cv) (hlo : lo ≤ 2 ^ 20) (hhi : hi ≤ n) (hc : I cv 3 = Int32.ofNat c) (hg : ∀ i, i < n → (g i = true ↔ I ar i < x)) : ∃ I', zg_Cover_halve_0 X cv ar (Int32.ofNat lo) (Int32.ofNat hi) x (zM b I J) = some (some (.int (Int32.ofNat (zbs g 32 lo hi).1)), zM b I' J) ∧ I' cv 3 = Int32.ofNat (c + (zbs g 32 lo hi).2) ∧ (∀ j, j ≠ 3 → I' cv j = I cv j) ∧ ∀ a, a ≠ cv → I' a = I a := by
  rw [zg_Cover_halve_0_e, zlen' har (show 0 < 7 by decide), s_minN X _ _ _ (by omega) (by omega), zci, show min hi N = hi by omega]
  exact c_halve14 X hcv har hN hn hne 32 lo hi c I (Nat.le_refl _) hlo hhi (by omega) hc hg
theorem m_halves6 {J : zJ} {l n : Nat} {g : Nat → Bool} {x : Int32} (hl : l < 12) (hn : n ≤ 302) : ∀ (m lo hi c : Nat) (I : zI), lo ≤ 2 ^ 20 → hi ≤ n → hi - lo < 2 ^ m → I 181 30 = Int32.ofNat c → (∀ i, i < n → (g i = true ↔ if l = 0 then I (189 + l) i < x else I (189 + l) i ≤ x)) → ∃ I', zg_M_halves_6 X 181 (Int32.ofNat l) x (Int32.ofNat lo) (Int32.ofNat hi) (zM b I J) = some (some (.int (Int32.ofNat (zbs g m lo hi).1)), zM b I' J) ∧ I' 181 30 = Int32.ofNat (c + (zbs g m lo hi).2) ∧ (∀ j, j ≠ 30 → I' 181 j = I 181 j) ∧ ∀ a, a ≠ 181 → I' a = I a := by
  intro m
  induction m with
  | zero =>
    intro lo hi c I hlo hhi hd hc hg
    refine ⟨I, ?_, hc, fun _ _ => rfl, fun _ _ => rfl⟩
    rw [zg_M_halves_6_e, if_pos ((zn_le (by omega) (by omega)).mpr (by omega)), zg_M_halves_100_e]
    rfl
  | succ m ih =>
    intro lo hi c I hlo hhi hd hc hg
    have hmid : (Int32.ofNat lo + Int32.ofNat hi) / 2 = Int32.ofNat ((lo + hi) / 2) := by rw [zn_add, zkd2 (by omega)]
    have hp : 2 ^ (m + 1) = 2 * 2 ^ m := by rw [Nat.pow_succ]; omega
    rw [zbs, zg_M_halves_6_e]
    by_cases hlh : hi ≤ lo
    · rw [if_pos ((zn_le (by omega) (by omega)).mpr hlh), if_pos hlh, zg_M_halves_100_e]
      exact ⟨I, rfl, hc, fun _ _ => rfl, fun _ _ => rfl⟩
    · have hgm := hg ((lo + hi) / 2) (by omega)
      have hne : ∀ i, zst I 181 30 (Int32.ofNat (c + 1)) (189 + l) i = I (189 + l) i := fun i => by rw [zst_ne (by omega)]
      have hg' : ∀ i, i < n → (g i = true ↔ if l = 0 then zst I 181 30 (Int32.ofNat (c + 1)) (189 + l) i < x else zst I 181 30 (Int32.ofNat (c + 1)) (189 + l) i ≤ x) := fun i hi => by rw [hne]; exact hg i hi
      have key : zg_M_halves_6 X 181 (Int32.ofNat l) x (Int32.ofNat lo) (Int32.ofNat hi) (zM b I J) = if g ((lo + hi) / 2) = true then zg_M_halves_6 X 181 (Int32.ofNat l) x (Int32.ofNat ((lo + hi) / 2 + 1)) (Int32.ofNat hi) (zM b (zst I 181 30 (Int32.ofNat (c + 1))) J) else zg_M_halves_6 X 181 (Int32.ofNat l) x (Int32.ofNat lo) (Int32.ofNat ((lo + hi) / 2)) (zM b (zst I 181 30 (Int32.ofNat (c + 1))) J) := by
        conv => lhs; rw [zg_M_halves_6_e, if_neg (fun q => hlh ((zn_le (by omega) (by omega)).mp q)), if_neg (by decide)]
        simp only [zM_I, zM_J, zM_P, zM_wI, zM_wL, zrf, zo181, hc, zn_add1, hmid, zp181_17, zmt188 hl, zmx189 hl (show (lo + hi) / 2 < 302 by omega), hne, zg_M_halves_58_e, zg_M_halves_54_e, zg_M_halves_76_e, zg_M_halves_77_e, zg_M_halves_93_e, zg_M_halves_97_e]
        by_cases hl0 : l = 0
        · rw [if_pos hl0] at hgm
          rw [if_pos ((zke0 (by omega)).mpr hl0)]
          by_cases c1 : g ((lo + hi) / 2) = true
          · have := hgm.mp c1
            rw [if_neg (by rw [zi_le]; rw [zi_lt] at this; omega), if_pos c1, if_neg (by decide)]
          · have : ¬ I (189 + l) ((lo + hi) / 2) < x := fun q => c1 (hgm.mpr q)
            rw [if_pos (by rw [zi_le]; rw [zi_lt] at this; omega), if_neg c1, if_true]
        · rw [if_neg hl0] at hgm
          rw [if_neg (fun q => hl0 ((zke0 (by omega)).mp q))]
          by_cases c1 : g ((lo + hi) / 2) = true
          · have := hgm.mp c1
            rw [if_neg (by rw [zi_lt]; rw [zi_le] at this; omega), if_pos c1, if_neg (by decide)]
          · have : ¬ I (189 + l) ((lo + hi) / 2) ≤ x := fun q => c1 (hgm.mpr q)
            rw [if_pos (by rw [zi_lt]; rw [zi_le] at this; omega), if_neg c1, if_true]
      rw [← zg_M_halves_6_e, key, if_neg hlh]
      by_cases c1 : g ((lo + hi) / 2) = true
      · rw [if_pos c1, if_pos c1]
        obtain ⟨I', f1, f2, f3, f4⟩ := ih ((lo + hi) / 2 + 1) hi (c + 1) _ (by omega) hhi (by omega) zst_self hg'
        exact ⟨I', f1, by rw [f2]; congr 1; simp only; omega, fun j hj => by rw [f3 j hj, zst_off hj], fun a ha => by rw [f4 a ha, zst_ne ha]⟩
      · rw [if_neg c1, if_neg c1]
        obtain ⟨I', f1, f2, f3, f4⟩ := ih lo ((lo + hi) / 2) (c + 1) _ (by omega) (by omega) (by omega) zst_self hg'
        exact ⟨I', f1, by rw [f2]; congr 1; simp only; omega, fun j hj => by rw [f3 j hj, zst_off hj], fun a ha => by rw [f4 a ha, zst_ne ha]⟩
theorem m_downwards (x y : Int64) (M : zv_M) (hy : 0 < y.toInt) : ∃ q : Int64, zg_M_downwards_0 X x y M = some (some (.long q), M) ∧ q.toInt = x.toInt / y.toInt := by
  have e00 : (0 : Int64).toInt = 0 := rfl
  have hy0 : ¬ y = 0 := fun h => by rw [h, e00] at hy; omega
  obtain ⟨q, h1, h2⟩ := s_floorDiv X x y M hy
  simp only [zg_Math_floorDiv_0_e, zg_Math_floorDiv_27_e, if_neg hy0, lg_cmp_ge, zl_xor x y hy, lg_cmp_eq] at h1
  have inj : ∀ u v : Int64, (some (some (Value.long u), M) : Option (Option Value × zv_M)) = some (some (Value.long v), M) → u = v := fun u v h => by
    cases h; rfl
  have hz : (x - x / y * y = 0) ↔ x / y * y = x := by
    constructor
    · intro h
      have := Int64.sub_add_cancel x (x / y * y)
      rw [h, Int64.zero_add] at this
      exact this
    · intro h
      rw [h, Int64.sub_self]
  refine ⟨q, ?_, h2⟩
  rw [zg_M_downwards_0_e, if_neg hy0, if_neg hy0, zg_M_downwards_26_e, zg_M_downwards_28_e, zg_M_downwards_28_e]
  by_cases c : 0 ≤ x.toInt
  · rw [if_pos c] at h1
    have := inj _ _ h1
    rw [← this, if_pos (show 0 ≤ lg_cmp x 0 by rw [lg_cmp_ge, zl_le, e00]; exact c)]
    split <;> rfl
  · rw [if_neg c] at h1
    by_cases d : x / y * y = x
    · rw [if_pos d] at h1
      rw [← inj _ _ h1, if_pos (by rw [lg_cmp_eq]; exact hz.mpr d)]
    · rw [if_neg d] at h1
      rw [← inj _ _ h1, if_neg (by rw [lg_cmp_eq]; exact fun q => d (hz.mp q)), if_neg (by rw [lg_cmp_ge, zl_le, e00]; exact c)]
theorem m_guess15 {I : zI} {J : zJ} {l n e k : Nat} {f : Nat → Int} {x : Int32} (hl : l < 12) (hn : n ≤ 301) (he : e ≤ 20) (hu : zupto f n) (hf : zfb f) (h : zML I J l f n e) (hk : k < zNp f n e) : ∀ (m t : Nat) (l4 : Int64), t + m = zF f n e (k + 1) → zF f n e k ≤ t → (t = zF f n e k ∧ l4 = -9223372036854775808 ∨ ((∀ s : Nat, zF f n e k ≤ s → s < t → (s : Int) - e + (zPk f n e k * (x.toInt - f s)) / zQk f n e k ≤ l4.toInt) ∧ ∃ s : Nat, zF f n e k ≤ s ∧ s < t ∧ l4.toInt = (s : Int) - e + (zPk f n e k * (x.toInt - f s)) / zQk f n e k)) → ∃ B : Int64, zg_M_guessOf_15 X 181 (Int32.ofNat l) (Int32.ofNat k) x l4 (Int32.ofNat t) (zM b I J) = zg_M_guessOf_97 X 181 (Int32.ofNat l) (Int32.ofNat k) B (zM b I J) ∧ ((zF f n e (k + 1) = zF f n e k ∧ B = -9223372036854775808) ∨ ((∀ s : Nat, zF f n e k ≤ s → s < zF f n e (k + 1) → (s : Int) - e + (zPk f n e k * (x.toInt - f s)) / zQk f n e k ≤ B.toInt) ∧ ∃ s : Nat, zF f n e k ≤ s ∧ s < zF f n e (k + 1) ∧ B.toInt = (s : Int) - e + (zPk f n e k * (x.toInt - f s)) / zQk f n e k)) := by
  obtain ⟨y1, y2, y3, y4, y5⟩ := h
  obtain ⟨q1, q2, q3, q4, q5⟩ := y5 k hk
  have hhalf := zNp_half (e := e) hu
  have hmono := zF_mono (f := f) (n := n) (e := e) (show k < k + 1 by omega) (by omega)
  have hle := zF_le f n e (k + 1)
  have hmin : (-9223372036854775808 : Int64).toInt = -9223372036854775808 := rfl
  intro m
  induction m with
  | zero =>
    intro t l4 ht hat hL
    have : t = zF f n e (k + 1) := by omega
    subst this
    refine ⟨l4, ?_, hL.elim (fun h => Or.inl ⟨by omega, h.2⟩) Or.inr⟩
    rw [zg_M_guessOf_15_e]
    simp only [zM_I, zM_J, zM_P, zM_wI, zM_wL, zrf, zo181, zp181_19, zmt214 hl, zmx215 hl (show k < 302 by omega), q2]
    rw [if_pos ((zn_lt (by omega) (by omega)).mpr (by omega))]
  | succ m ih =>
    intro t l4 ht hat hL
    have hft := y4 t (by omega)
    have hfb := hf t
    have hxr := zi_rng x
    have d1 : (Int32.toInt64 x - Int32.toInt64 (I (189 + l) t)).toInt = x.toInt - f t := by rw [zrun, hft]
    have wb := zabsmul (a := zPk f n e k) (c := x.toInt - f t) (A := 400) (C := 4000000000) (by omega) (by omega) (by omega) (by omega)
    have m1 : (J (228 + l) k * (Int32.toInt64 x - Int32.toInt64 (I (189 + l) t))).toInt = zPk f n e k * (x.toInt - f t) := by
      rw [zl_mul, d1, q3]
      · rw [d1, q3]; omega
      · rw [d1, q3]; omega
    obtain ⟨fd, g1, g2⟩ := m_downwards X (J (228 + l) k * (Int32.toInt64 x - Int32.toInt64 (I (189 + l) t))) (J (241 + l) k) (zM b I J) (by rw [q4]; omega)
    rw [m1, q4] at g2
    have hd1 : -2000000000000 ≤ (zPk f n e k * (x.toInt - f t)) / zQk f n e k ∧ (zPk f n e k * (x.toInt - f t)) / zQk f n e k ≤ 2000000000000 := by
      constructor
      · exact Int.le_ediv_of_mul_le (by omega) (by omega)
      · exact Int.ediv_le_of_le_mul (by omega) (by omega)
    have es : (Int32.toInt64 (Int32.ofNat t - Int32.ofNat e)).toInt = (t : Int) - e := by
      rw [Int32.toInt_toInt64, zi_sub (by rw [zn_int (by omega), zn_int (by omega)]; omega) (by rw [zn_int (by omega), zn_int (by omega)]; omega), zn_int (by omega), zn_int (by omega)]
    have hv : (Int32.toInt64 (Int32.ofNat t - Int32.ofNat e) + fd).toInt = (t : Int) - e + (zPk f n e k * (x.toInt - f t)) / zQk f n e k := by
      rw [zl_add, es, g2]
      · rw [es, g2]; omega
      · rw [es, g2]; omega
    generalize hV : Int32.toInt64 (Int32.ofNat t - Int32.ofNat e) + fd = V at *
    have key : zg_M_guessOf_15 X 181 (Int32.ofNat l) (Int32.ofNat k) x l4 (Int32.ofNat t) (zM b I J) = zg_M_guessOf_15 X 181 (Int32.ofNat l) (Int32.ofNat k) x (if V.toInt ≤ l4.toInt then l4 else V) (Int32.ofNat (t + 1)) (zM b I J) := by
      conv => lhs; rw [zg_M_guessOf_15_e]
      simp only [zM_I, zM_J, zM_P, zM_wI, zM_wL, zrf, zo181, zp181_19, zp181_24, zp181_20, zp181_17, zp181_21, zmt214 hl, zmx215 hl (show k < 302 by omega), q2, zx255 hl, y2, zmt227 hl, zmx228 hl (show k < 302 by omega), zmt188 hl, zmx189 hl (show t < 302 by omega), zmt240 hl, zmx241 hl (show k < 302 by omega), g1, zcl, hV, zg_M_guessOf_87_e, zg_M_guessOf_89_e, zn_add1]
      rw [if_neg (fun q => absurd ((zn_lt (by omega) (by omega)).mp q) (by omega))]
      by_cases c : V.toInt ≤ l4.toInt
      · rw [if_pos (by rw [lg_cmp_le, zl_le]; exact c), if_pos c]
      · rw [if_neg (by rw [lg_cmp_le, zl_le]; exact c), if_neg c]
    rw [key]
    apply ih (t + 1) _ (by omega) (by omega)
    refine Or.inr ?_
    by_cases c : V.toInt ≤ l4.toInt
    · rw [if_pos c]
      rcases hL with ⟨h1, h2⟩ | ⟨h1, s, h2, h3, h4⟩
      · rw [h2, hmin] at c; omega
      · refine ⟨fun s s1 s2 => ?_, s, h2, by omega, h4⟩
        rcases Nat.lt_or_ge s t with w | w
        · exact h1 s s1 w
        · have : s = t := by omega
          rw [this, ← hv]; exact c
    · rw [if_neg c]
      refine ⟨fun s s1 s2 => ?_, t, hat, by omega, hv⟩
      rcases Nat.lt_or_ge s t with w | w
      · rcases hL with ⟨h1, h2⟩ | ⟨h1, -⟩
        · omega
        · have := h1 s s1 w; omega
      · have : s = t := by omega
        rw [this, ← hv]; exact Int.le_refl _
theorem m_guessOf {I : zI} {J : zJ} {l n e k : Nat} {f : Nat → Int} {x : Int32} (hl : l < 12) (hn : n ≤ 301) (he : e ≤ 20) (hu : zupto f n) (hf : zfb f) (h : zML I J l f n e) (hk : k < zNp f n e) : zg_M_guessOf_0 X 181 (Int32.ofNat l) (Int32.ofNat k) x (zM b I J) = some (some (.int (Int32.ofNat (zgk f n e k x.toInt))), zM b I J) := by
  have h' := h
  obtain ⟨y1, y2, y3, y4, y5⟩ := h
  obtain ⟨q1, q2, q3, q4, q5⟩ := y5 k hk
  have hhalf := zNp_half (e := e) hu
  have hmono := zF_mono (f := f) (n := n) (e := e) (show k < k + 1 by omega) (by omega)
  have hle := zF_le f n e (k + 1)
  have e00 : (0 : Int64).toInt = 0 := rfl
  obtain ⟨B, k1, k2⟩ := m_guess15 X (b := b) (J := J) (x := x) hl hn he hu hf h' hk (zF f n e (k + 1) - zF f n e k) (zF f n e k) (-9223372036854775808) (by omega) (Nat.le_refl _) (Or.inl ⟨rfl, rfl⟩)
  rcases k2 with ⟨k2, -⟩ | ⟨k2, k3⟩
  · omega
  · have hB := zfloor (x := x.toInt) q5.2.2.1 (zLk_spec hk) k2 k3
    have hz := zgk_le (f := f) (n := n) (e := e) (k := k) (x := x.toInt)
    have ez : (zgk f n e k x.toInt : Int) = max 0 (min B.toInt (zF f n e (k + 1))) := by
      rw [hB]
      unfold zgk zgv
      omega
    have el : (Int32.toInt64 (Int32.ofNat (zF f n e (k + 1) - 1)) + 1).toInt = zF f n e (k + 1) := by
      have e1 : (1 : Int64).toInt = 1 := rfl
      rw [zl_add, Int32.toInt_toInt64, zn_int (by omega), e1]
      · omega
      · rw [Int32.toInt_toInt64, zn_int (by omega), e1]; omega
      · rw [Int32.toInt_toInt64, zn_int (by omega), e1]; omega
    rw [zg_M_guessOf_0_e]
    simp only [zM_I, zM_J, zM_P, zM_wI, zM_wL, zrf, zo181, zp181_18, zmt201 hl, zmx202 hl (show k < 302 by omega), q1]
    rw [k1, zg_M_guessOf_97_e]
    simp only [zM_I, zM_J, zM_P, zM_wI, zM_wL, zrf, zo181, zp181_19, zmt214 hl, zmx215 hl (show k < 302 by omega), q2, zg_M_guessOf_121_e, zg_M_guessOf_134_e, zg_M_guessOf_136_e]
    have fin : ∀ V : Int64, V.toInt = (zgk f n e k x.toInt : Int) → some (some (Value.int (Int64.toInt32 V)), zM b I J) = some (some (Value.int (Int32.ofNat (zgk f n e k x.toInt))), zM b I J) := fun V hV => by
      congr 4
      rw [zi_eq, zof64 hV (by omega) (by omega), zn_int (by omega)]
    by_cases c1 : 0 ≤ B.toInt
    · rw [if_pos (by rw [lg_cmp_ge, zl_le, e00]; exact c1)]
      by_cases c2 : B.toInt ≤ zF f n e (k + 1)
      · rw [if_pos (by rw [lg_cmp_le, zl_le, el]; exact c2)]
        exact fin B (by omega)
      · rw [if_neg (by rw [lg_cmp_le, zl_le, el]; exact c2)]
        exact fin _ (by rw [el]; omega)
    · rw [if_neg (by rw [lg_cmp_ge, zl_le, e00]; exact c1)]
      exact fin 0 (by rw [e00]; omega)
theorem c_guess {I : zI} {J : zJ} {lv cap n e k : Nat} {f : Nat → Int} {x : Int32} (hs : zLs b lv cap) (hn : n ≤ cap) (hn3 : n ≤ 300) (he : e ≤ 20) (hu : zupto f n) (hf : zfb f) (h : zLv I J lv f n e) (hk : k < zNp f n e) : zg_Level_guessed_0 X lv (Int32.ofNat k) x (zM b I J) = some (some (.int (Int32.ofNat (zgk f n e k x.toInt))), zM b I J) := by
  obtain ⟨g, g1, g2⟩ := c_guessed X (b := b) (x := x) hs hn hn3 he hu hf h hk (zLk_spec hk)
  rw [g1, show g = zgk f n e k x.toInt by unfold zgk; omega]
end ZSK
