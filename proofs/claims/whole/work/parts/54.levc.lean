/-! a level of the object -/
theorem zred_bd2 {x : Nat → Int} {e k : Nat} {P Q : Int} (h : zred x e k P Q) (hk : k ≤ 400) (hx : ∀ i, -999999999 ≤ x i ∧ x i ≤ 999999999) : 0 ≤ P ∧ P ≤ 400 ∧ 0 < Q ∧ Q ≤ 2000000000 := by
  have h0 := zred_bd h hk (fun i => by have := hx i; omega)
  obtain ⟨p, q, ⟨s1, s2, s3, s4⟩, rfl, rfl⟩ := h
  have hq : q ≤ 2000000000 := by
    rcases s4 with ⟨-, rfl⟩ | ⟨i, j, k1, k2, -, rfl⟩
    · omega
    · have := hx i
      have := hx j
      omega
  have := Int.ediv_le_self (Nat.gcd p.toNat q.toNat : Nat) (Int.le_of_lt s1)
  omega
theorem zrem {x y : Int64} {a b : Nat} (hx : x.toInt = a) (hy : y.toInt = b) (hb : 0 < b) : (x - x / y * y).toInt = (a % b : Nat) := by
  have h1 : y ≠ -1 := fun h => by rw [h] at hy; have : (-1 : Int64).toInt = -1 := rfl; omega
  have hxl := x.toInt_lt
  have hd : (x / y).toInt = (a / b : Nat) := by
    rw [Int64.toInt_div_of_ne_right x y h1, hx, hy]
    exact Int.ofNat_tdiv a b
  have hle : a / b * b ≤ a := Nat.div_mul_le_self a b
  have hm : (x / y * y).toInt = (a / b * b : Nat) := by
    rw [zl_mul, hd, hy, Int.natCast_mul]
    · rw [hd, hy, ← Int.natCast_mul]; omega
    · rw [hd, hy, ← Int.natCast_mul]; omega
  have hr : a / b * b + a % b = a := by rw [Nat.mul_comm]; exact Nat.div_add_mod a b
  rw [zl_sub, hx, hm]
  · omega
  · rw [hx, hm]; omega
  · rw [hx, hm]; omega
section ZLV
variable (X : zv_X) {b : Bool}
theorem c_div9 (M : zv_M) : ∀ (k a d s : Nat) (l4 l6 : Int64), l4.toInt = a → l6.toInt = d → 0 < a → d < 2 ^ k → s + 2 * k ≤ 90 → ∃ g : Int64, zg_Level_divisor_9 X l4 l6 (Int32.ofNat s) M = some (some (.long g), M) ∧ g.toInt = (Nat.gcd a d : Nat) := by
  have e00 : (0 : Int64).toInt = 0 := rfl
  have fin : ∀ (a s : Nat) (l4 l6 : Int64), l4.toInt = a → l6.toInt = (0 : Nat) → 0 < a → s ≤ 99 → ∃ g : Int64, zg_Level_divisor_9 X l4 l6 (Int32.ofNat s) M = some (some (.long g), M) ∧ g.toInt = (a : Nat) := fun a s l4 l6 h4 h6 ha hs => by
    rw [zg_Level_divisor_9_e, if_neg (fun q => absurd ((zkh100 (by omega)).mp q) (by omega)), if_pos (by rw [lg_cmp_le, zl_le, h6, e00]; exact Int.le_refl _), zg_Level_divisor_44_e, s_maxL, zcl]
    refine ⟨_, rfl, ?_⟩
    have e1 : (1 : Int64).toInt = 1 := rfl
    split
    · exact h4
    · rename_i h
      rw [zl_lt, e1, h4] at h
      rw [e1]; omega
  have step : ∀ (a d s : Nat) (l4 l6 : Int64), l6.toInt = d → 0 < d → s ≤ 99 → zg_Level_divisor_9 X l4 l6 (Int32.ofNat s) M = zg_Level_divisor_9 X l6 (l4 - l4 / l6 * l6) (Int32.ofNat (s + 1)) M := fun a d s l4 l6 h6 hd hs => by
    conv => lhs; rw [zg_Level_divisor_9_e]
    rw [if_neg (fun q => absurd ((zkh100 (by omega)).mp q) (by omega)), if_neg (by rw [lg_cmp_le, zl_le, h6, e00]; omega), if_neg (fun q => by rw [q, e00] at h6; omega), zn_add1]
  intro k
  induction k with
  | zero =>
    intro a d s l4 l6 h4 h6 ha hd hs
    have : d = 0 := by omega
    subst this
    rw [Nat.gcd_zero_right]
    exact fin a s l4 l6 h4 h6 ha (by omega)
  | succ k ih =>
    intro a d s l4 l6 h4 h6 ha hd hs
    rcases Nat.eq_zero_or_pos d with c | c
    · subst c
      rw [Nat.gcd_zero_right]
      exact fin a s l4 l6 h4 h6 ha (by omega)
    · have hr := zrem h4 h6 c
      have hg1 : Nat.gcd a d = Nat.gcd d (a % d) := by rw [Nat.gcd_comm a d, Nat.gcd_rec d a, Nat.gcd_comm]
      have hmod : a % d < d := Nat.mod_lt _ c
      rw [step a d s l4 l6 h6 c (by omega), hg1]
      rcases Nat.eq_zero_or_pos (a % d) with c2 | c2
      · rw [c2, Nat.gcd_zero_right]
        exact fin d (s + 1) _ _ h6 (by rw [hr, c2]) c (by omega)
      · have hr2 := zrem h6 hr c2
        have hg2 : Nat.gcd d (a % d) = Nat.gcd (a % d) (d % (a % d)) := by rw [Nat.gcd_comm d (a % d), Nat.gcd_rec (a % d) d, Nat.gcd_comm]
        rw [step d (a % d) (s + 1) _ _ hr c2 (by omega), hg2]
        have hm2 : d % (a % d) < a % d := Nat.mod_lt _ c2
        have hm3 : d % (a % d) + (a % d) ≤ d := by
          have h1 := Nat.div_add_mod d (a % d)
          have h2 : 1 ≤ d / (a % d) := Nat.div_pos (Nat.le_of_lt hmod) c2
          have h3 := Nat.mul_le_mul_left (a % d) h2
          omega
        exact ih _ _ (s + 1 + 1) _ _ hr hr2 c2 (by rw [Nat.pow_succ] at hd; omega) (by omega)
theorem c_divisor {p q : Int64} {a d : Nat} (hp : p.toInt = a) (hq : q.toInt = d) (hd : 0 < d) (ha : a < 2048) (M : zv_M) : ∃ g : Int64, zg_Level_divisor_0 X p q M = some (some (.long g), M) ∧ g.toInt = (Nat.gcd a d : Nat) := by
  obtain ⟨g, h1, h2⟩ := c_div9 X M 11 d a 0 q p hq hp hd (by omega) (by decide)
  exact ⟨g, by rw [zg_Level_divisor_0_e]; exact h1, by rw [h2, Nat.gcd_comm]⟩
def zLs (b : Bool) (lv cap : Nat) : Prop := zSH[lv]? = some (.inr 5) ∧ zSH[lv + 1]? = some (.inl (0, cap)) ∧ zSH[lv + 2]? = some (.inl (0, cap / 2 + 1)) ∧ zSH[lv + 3]? = some (.inl (0, cap / 2 + 1)) ∧ zSH[lv + 4]? = some (.inl (0, cap / 2 + 1)) ∧ zSH[lv + 5]? = some (.inl (1, cap / 2 + 1)) ∧ zP b lv 0 = some (lv + 1) ∧ zP b lv 4 = some (lv + 2) ∧ zP b lv 5 = some (lv + 3) ∧ zP b lv 6 = some (lv + 4) ∧ zP b lv 7 = some (lv + 5) ∧ cap < 2 ^ 20
theorem c_line34 {I : zI} {J : zJ} {lv cap i a c e : Nat} {f : Nat → Int} {lP lQ : Int32} (hs : zLs b lv cap) (hi : i < cap / 2 + 1) (hfi : I (lv + 2) i = Int32.ofNat a) (he : I lv 2 = Int32.ofNat e) (he20 : e ≤ 20) (hc : c ≤ cap) (hc3 : c ≤ 400) (hac : a < c) (hrow : ∀ t, t < c → (I (lv + 1) t).toInt = f t) (hP : 0 ≤ lP.toInt ∧ lP.toInt ≤ 400) (hQ : 0 < lQ.toInt ∧ lQ.toInt ≤ 2000000000) (hf : ∀ t, -999999999 ≤ f t ∧ f t ≤ 999999999) : ∀ (m t : Nat) (l11 : Int64), t + m = c → a ≤ t → (t = a ∨ zLn f e a t lP.toInt lQ.toInt l11.toInt) → ∃ L : Int64, zg_Level_setLine_34 X lv (Int32.ofNat i) (Int32.ofNat (c - 1)) lP lQ l11 (Int32.ofNat t) (zM b I J) = zg_Level_setLine_96 X lv (Int32.ofNat i) lP lQ L (zM b I J) ∧ zLn f e a c lP.toInt lQ.toInt L.toInt := by
  obtain ⟨s0, s1, s2, s3, s4, s5, p0, p4, p5, p6, p7, hcap⟩ := hs
  intro m
  induction m with
  | zero =>
    intro t l11 ht hat hL
    have : t = c := by omega
    subst this
    refine ⟨l11, ?_, hL.resolve_left (by omega)⟩
    rw [zg_Level_setLine_34_e, if_pos ((zn_lt (by omega) (by omega)).mpr (by omega))]
  | succ m ih =>
    intro t l11 ht hat hL
    have hft := hrow t (by omega)
    have hfb := hf t
    have ie : (Int32.ofNat e).toInt = e := zn_int (by omega)
    have it : (Int32.ofNat t).toInt = t := zn_int (by omega)
    have d1 : (Int32.ofNat t - Int32.ofNat e).toInt = (t : Int) - e := by rw [zi_sub (by omega) (by omega), it, ie]
    have m1 : (Int32.toInt64 lQ * Int32.toInt64 (Int32.ofNat t - Int32.ofNat e)).toInt = lQ.toInt * ((t : Int) - e) := by
      have := zabsmul (a := lQ.toInt) (c := (t : Int) - e) (A := 2000000000) (C := 1000) (by omega) (by omega) (by omega) (by omega)
      rw [zl_mul, Int32.toInt_toInt64, Int32.toInt_toInt64, d1]
      · rw [Int32.toInt_toInt64, Int32.toInt_toInt64, d1]; omega
      · rw [Int32.toInt_toInt64, Int32.toInt_toInt64, d1]; omega
    have m2 : (Int32.toInt64 lP * Int32.toInt64 (I (lv + 1) t)).toInt = lP.toInt * f t := by
      have := zabsmul (a := lP.toInt) (c := f t) (A := 400) (C := 1000000000) (by omega) (by omega) (by omega) (by omega)
      rw [zl_mul, Int32.toInt_toInt64, Int32.toInt_toInt64, hft]
      · rw [Int32.toInt_toInt64, Int32.toInt_toInt64, hft]; omega
      · rw [Int32.toInt_toInt64, Int32.toInt_toInt64, hft]; omega
    have hn : (Int32.toInt64 lQ * Int32.toInt64 (Int32.ofNat t - Int32.ofNat e) - Int32.toInt64 lP * Int32.toInt64 (I (lv + 1) t)).toInt = lQ.toInt * ((t : Int) - e) - lP.toInt * f t := by
      have w1 := zabsmul (a := lQ.toInt) (c := (t : Int) - e) (A := 2000000000) (C := 1000) (by omega) (by omega) (by omega) (by omega)
      have w2 := zabsmul (a := lP.toInt) (c := f t) (A := 400) (C := 1000000000) (by omega) (by omega) (by omega) (by omega)
      rw [zl_sub, m1, m2]
      · rw [m1, m2]; omega
      · rw [m1, m2]; omega
    have key : ∀ r, zg_Level_setLine_34 X lv (Int32.ofNat i) (Int32.ofNat (c - 1)) lP lQ (if t = a ∨ l11.toInt < lQ.toInt * ((t : Int) - e) - lP.toInt * f t then Int32.toInt64 lQ * Int32.toInt64 (Int32.ofNat t - Int32.ofNat e) - Int32.toInt64 lP * Int32.toInt64 (I (lv + 1) t) else l11) (Int32.ofNat (t + 1)) (zM b I J) = r → zg_Level_setLine_34 X lv (Int32.ofNat i) (Int32.ofNat (c - 1)) lP lQ l11 (Int32.ofNat t) (zM b I J) = r := fun r hr => by
      rw [← hr]
      conv => lhs; rw [zg_Level_setLine_34_e, if_neg (fun q => absurd ((zn_lt (by omega) (by omega)).mp q) (by omega))]
      simp only [zM_I, zM_J, zM_P, zM_wI, zM_wL, zrf, zob s0, p0, p4]
      rw [zix s1 (by omega) (by omega), zix s2 hi (by omega), hfi, he, zg_Level_setLine_86_e, zg_Level_setLine_90_e, zg_Level_setLine_90_e, zn_add1]
      by_cases c1 : t = a
      · rw [if_pos (by rw [c1]), if_pos (Or.inl c1)]
      · rw [if_neg (fun q => c1 ((zn_eq (by omega) (by omega)).mp q))]
        by_cases c2 : l11.toInt < lQ.toInt * ((t : Int) - e) - lP.toInt * f t
        · rw [if_neg (by rw [lg_cmp_le, zl_le, hn]; omega), if_pos (Or.inr c2)]
        · rw [if_pos (by rw [lg_cmp_le, zl_le, hn]; omega), if_neg (by omega)]
    have hL' : zLn f e a (t + 1) lP.toInt lQ.toInt (if t = a ∨ l11.toInt < lQ.toInt * ((t : Int) - e) - lP.toInt * f t then Int32.toInt64 lQ * Int32.toInt64 (Int32.ofNat t - Int32.ofNat e) - Int32.toInt64 lP * Int32.toInt64 (I (lv + 1) t) else l11).toInt := by
      by_cases c1 : t = a ∨ l11.toInt < lQ.toInt * ((t : Int) - e) - lP.toInt * f t
      · rw [if_pos c1, hn]
        refine ⟨fun s h1 h2 => ?_, t, hat, by omega, rfl⟩
        rcases Nat.lt_or_ge s t with d | d
        · rcases c1 with c1 | c1
          · omega
          · rcases hL with hL | hL
            · omega
            · have := hL.1 s h1 d; omega
        · have : s = t := by omega
          rw [this]; exact Int.le_refl _
      · rw [if_neg c1]
        have hL := hL.resolve_left (fun q => c1 (Or.inl q))
        obtain ⟨g1, s, g2, g3, g4⟩ := hL
        refine ⟨fun s h1 h2 => ?_, s, g2, by omega, g4⟩
        rcases Nat.lt_or_ge s t with d | d
        · exact g1 s h1 d
        · have : s = t := by omega
          rw [this]; omega
    obtain ⟨L, k1, k2⟩ := ih (t + 1) _ (by omega) (by omega) (Or.inr hL')
    exact ⟨L, key _ k1, k2⟩
end ZLV
