/-! members of the JDK -/
theorem s_min (X : zv_X) (x y : Int32) (M : zv_M) : zg_Math_min0_0 X x y M = some (some (.int (if y < x then y else x)), M) := by
  simp only [zg_Math_min0_0_e, zg_Math_min0_9_e, zg_Math_min0_10_e]
  split <;> rfl
theorem s_max (X : zv_X) (x y : Int32) (M : zv_M) : zg_Math_max0_0 X x y M = some (some (.int (if x < y then y else x)), M) := by
  simp only [zg_Math_max0_0_e, zg_Math_max0_9_e, zg_Math_max0_10_e]
  split <;> rfl
theorem s_minL (X : zv_X) (x y : Int64) (M : zv_M) : zg_Math_min1_0 X x y M = some (some (.long (if y < x then y else x)), M) := by
  simp only [zg_Math_min1_0_e, zg_Math_min1_10_e, zg_Math_min1_11_e, lg_cmp_gt]
  split <;> rfl
theorem s_maxL (X : zv_X) (x y : Int64) (M : zv_M) : zg_Math_max1_0 X x y M = some (some (.long (if x < y then y else x)), M) := by
  simp only [zg_Math_max1_0_e, zg_Math_max1_10_e, zg_Math_max1_11_e, lg_cmp_lt]
  split <;> rfl
theorem s_abs (X : zv_X) (x : Int32) (M : zv_M) : zg_Math_abs_0 X x M = some (some (.int (if 0 ≤ x then x else -x)), M) := by
  simp only [zg_Math_abs_0_e, zg_Math_abs_9_e, zg_Math_abs_10_e]
  split <;> rfl
theorem s_minN (X : zv_X) (m n : Nat) (M : zv_M) (hm : m < 2 ^ 31) (hn : n < 2 ^ 31) : zg_Math_min0_0 X (Int32.ofNat m) (Int32.ofNat n) M = some (some (.int (Int32.ofNat (min m n))), M) := by
  rw [s_min]
  by_cases h : n < m
  · rw [if_pos ((zn_lt hn hm).mpr h), Nat.min_eq_right (by omega)]
  · rw [if_neg (fun q => h ((zn_lt hn hm).mp q)), Nat.min_eq_left (by omega)]
theorem s_maxN (X : zv_X) (m n : Nat) (M : zv_M) (hm : m < 2 ^ 31) (hn : n < 2 ^ 31) : zg_Math_max0_0 X (Int32.ofNat m) (Int32.ofNat n) M = some (some (.int (Int32.ofNat (max m n))), M) := by
  rw [s_max]
  by_cases h : m < n
  · rw [if_pos ((zn_lt hm hn).mpr h), Nat.max_eq_right (by omega)]
  · rw [if_neg (fun q => h ((zn_lt hm hn).mp q)), Nat.max_eq_left (by omega)]
theorem zl_xor (x y : Int64) (hy : 0 < y.toInt) : (0 ≤ x ^^^ y) ↔ 0 ≤ x.toInt := by
  rw [zl_le]
  have e0 : (0 : Int64).toInt = 0 := rfl
  rw [e0]
  have h1 : (x ^^^ y).toInt = (x.toBitVec ^^^ y.toBitVec).toInt := rfl
  have h2 : x.toInt = x.toBitVec.toInt := rfl
  have h3 : y.toInt = y.toBitVec.toInt := rfl
  rw [h1, h2]
  have e1 : ∀ v : BitVec 64, 0 ≤ v.toInt ↔ v.msb = false := by
    intro v
    cases hv : v.msb
    · simp [BitVec.toInt_eq_msb_cond, hv]
    · have := BitVec.toInt_neg_of_msb_true hv
      simp; omega
  have hy' : y.toBitVec.msb = false := (e1 _).mp (by omega)
  rw [e1, e1, BitVec.msb_xor, hy', Bool.xor_false]
theorem s_floorDiv (X : zv_X) (x y : Int64) (M : zv_M) (hy : 0 < y.toInt) : ∃ q : Int64, zg_Math_floorDiv_0 X x y M = some (some (.long q), M) ∧ q.toInt = x.toInt / y.toInt := by
  have hy0 : ¬ y = 0 := fun h => by rw [h] at hy; exact absurd hy (by decide)
  have hx1 := x.toInt_lt
  have hx2 := x.le_toInt
  have hyl := y.toInt_lt
  have hy1 : y ≠ -1 := fun h => by rw [h] at hy; exact absurd hy (by decide)
  have hdiv : (x / y).toInt = x.toInt.tdiv y.toInt := Int64.toInt_div_of_ne_right x y hy1
  have hed : x.toInt = y.toInt * (x.toInt / y.toInt) + x.toInt % y.toInt := (Int.mul_ediv_add_emod _ _).symm
  have hm0 := Int.emod_nonneg x.toInt (show y.toInt ≠ 0 by omega)
  have hm1 := Int.emod_lt_of_pos x.toInt hy
  simp only [zg_Math_floorDiv_0_e, zg_Math_floorDiv_27_e, if_neg hy0, lg_cmp_ge, zl_xor x y hy, lg_cmp_eq]
  by_cases h : 0 ≤ x.toInt
  · rw [if_pos h]
    exact ⟨_, rfl, by rw [hdiv, Int.tdiv_eq_ediv_of_nonneg h]⟩
  · rw [if_neg h]
    have htd : x.toInt.tdiv y.toInt = -((-x.toInt) / y.toInt) := by
      rw [← Int.tdiv_eq_ediv_of_nonneg (show 0 ≤ -x.toInt by omega), Int.neg_tdiv, Int.neg_neg]
    have hnd : -x.toInt = y.toInt * (-x.toInt / y.toInt) + (-x.toInt) % y.toInt := (Int.mul_ediv_add_emod _ _).symm
    have hn0 := Int.emod_nonneg (-x.toInt) (show y.toInt ≠ 0 by omega)
    have hn1 := Int.emod_lt_of_pos (-x.toInt) hy
    have hq0 : 0 ≤ -x.toInt / y.toInt := Int.ediv_nonneg (by omega) (by omega)
    have hq1 : -x.toInt / y.toInt ≤ -x.toInt := Int.ediv_le_self _ (by omega)
    have hmul : (x / y * y).toInt = (x / y).toInt * y.toInt := by
      have e9 : (x / y).toInt * y.toInt = -(y.toInt * (-x.toInt / y.toInt)) := by
        rw [hdiv, htd, Int.neg_mul, Int.mul_comm]
      have := Int.mul_nonneg (Int.le_of_lt hy) hq0
      exact zl_mul (by omega) (by omega)
    have e9 : (x / y).toInt * y.toInt = -(y.toInt * (-x.toInt / y.toInt)) := by
      rw [hdiv, htd, Int.neg_mul, Int.mul_comm]
    by_cases h2 : x / y * y = x
    · rw [if_pos h2]
      refine ⟨_, rfl, ?_⟩
      have h3 := congrArg Int64.toInt h2
      rw [hmul] at h3
      have : x.toInt = (x / y).toInt * y.toInt := h3.symm
      rw [this, Int.mul_ediv_cancel _ (by omega)]
    · rw [if_neg h2]
      refine ⟨_, rfl, ?_⟩
      have e1 : (1 : Int64).toInt = 1 := rfl
      have hne : (-x.toInt) % y.toInt ≠ 0 := fun h0 => h2 (zl_eq.mpr (by rw [hmul, e9]; omega))
      have hc : 1 * (-x.toInt / y.toInt) ≤ y.toInt * (-x.toInt / y.toInt) := Int.mul_le_mul_of_nonneg_right (by omega) hq0
      rw [zl_sub (by rw [hdiv, htd, e1]; omega) (by rw [hdiv, htd, e1]; omega), hdiv, htd, e1]
      refine (((Int.ediv_emod_unique hy (r := y.toInt - (-x.toInt) % y.toInt)).mpr ⟨?_, by omega, by omega⟩).1).symm
      rw [Int.mul_sub, Int.mul_neg, Int.mul_one]; omega
