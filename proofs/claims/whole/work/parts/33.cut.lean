/-! searching a sorted row -/
def zcut (f : Nat → Int32) (n : Nat) (x : Int32) (i : Nat) : Prop := i ≤ n ∧ (∀ j, j < i → f j < x) ∧ ∀ j, i ≤ j → j < n → ¬ f j < x
theorem zcut_uniq {f : Nat → Int32} {n : Nat} {x : Int32} {i i' : Nat} (h : zcut f n x i) (h' : zcut f n x i') : i = i' := by
  rcases Nat.lt_trichotomy i i' with q | q | q
  · exact absurd (h'.2.1 i q) (h.2.2 i (Nat.le_refl _) (Nat.lt_of_lt_of_le q h'.1))
  · exact q
  · exact absurd (h.2.1 i' q) (h'.2.2 i' (Nat.le_refl _) (Nat.lt_of_lt_of_le q h.1))
theorem s_lessThan_loop (X : zv_X) {b : Bool} {I : zI} {J : zJ} {a n N i : Nat} {x : Int32} (hs : zSH[a]? = some (.inl (0, N))) (hn : n ≤ N) (hN : N < 2 ^ 20) (hi : zcut (I a) n x i) : ∀ (k low high : Nat), k ≤ 32 → low ≤ i → i ≤ high → high ≤ n → high - low < 2 ^ k → zg_GP_lessThan_8 X a x (Int32.ofNat low) (Int32.ofNat high) (Int32.ofNat (32 - k)) (zM b I J) = some (some (.int (Int32.ofNat i)), zM b I J) := by
  intro k
  induction k with
  | zero =>
    intro low high _ h1 h2 h3 h4
    have : low = i := by omega
    subst this
    rw [zg_GP_lessThan_8_e, if_pos (show (32 : Int32) ≤ Int32.ofNat (32 - 0) by decide), zg_GP_lessThan_55_e]
  | succ k ih =>
    intro low high hk h1 h2 h3 h4
    have hb : (32 : Int32) = Int32.ofNat 32 := rfl
    rw [zg_GP_lessThan_8_e, if_neg (by rw [hb, zn_le (by decide) (by omega)]; omega)]
    by_cases hl : high ≤ low
    · rw [if_pos ((zn_le (by omega) (by omega)).mpr hl), zg_GP_lessThan_55_e]
      have : low = i := by omega
      rw [this]
    · rw [if_neg (by rw [zn_le (by omega) (by omega)]; exact hl), if_neg (by decide)]
      have hm : (Int32.ofNat low + Int32.ofNat high) / 2 = Int32.ofNat ((low + high) / 2) := by
        rw [zn_add]
        exact zn_div (n := 2) (by omega) (by decide) (by decide)
      have hstep : Int32.ofNat (32 - (k + 1)) + 1 = Int32.ofNat (32 - k) := by
        rw [zn_add1]; congr 1; omega
      have hp : 2 ^ (k + 1) = 2 * 2 ^ k := by rw [Nat.pow_succ]; omega
      rw [hm, zix hs (by omega) (by omega), zM_I]
      by_cases hx : x ≤ I a ((low + high) / 2)
      · rw [if_pos hx, zg_GP_lessThan_45_e, zg_GP_lessThan_49_e, hstep]
        have hle : i ≤ (low + high) / 2 := by
          rcases Nat.lt_or_ge ((low + high) / 2) i with q | q
          · have := hi.2.1 _ q
            rw [zi_lt] at this; rw [zi_le] at hx; omega
          · exact q
        exact ih _ _ (by omega) h1 hle (by omega) (by omega)
      · rw [if_neg hx, zg_GP_lessThan_49_e, hstep, zn_add1]
        have hlt : (low + high) / 2 < i := by
          rcases Nat.lt_or_ge ((low + high) / 2) i with q | q
          · exact q
          · have := hi.2.2 _ q (by omega)
            rw [zi_lt] at this; rw [zi_le] at hx; omega
        exact ih _ _ (by omega) (by omega) h2 h3 (by omega)
theorem s_lessThan (X : zv_X) {b : Bool} {I : zI} {J : zJ} {a n N i : Nat} {x : Int32} (hs : zSH[a]? = some (.inl (0, N))) (hn : n ≤ N) (hN : N < 2 ^ 20) (hi : zcut (I a) n x i) : zg_GP_lessThan_0 X a (Int32.ofNat n) x (zM b I J) = some (some (.int (Int32.ofNat i)), zM b I J) := by
  rw [zg_GP_lessThan_0_e]
  exact s_lessThan_loop X hs hn hN hi 32 0 n (Nat.le_refl _) (Nat.zero_le _) hi.1 (Nat.le_refl _) (by omega)
