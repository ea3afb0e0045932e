/-! points and boxes: numbers by three orders -/
theorem zif01 {α : Type} {C : Prop} {d : Decidable C} {x y : α} : (if (if C then (0 : Int32) else 1) = 0 then x else y) = if C then x else y := by
  by_cases h : C
  · rw [if_pos h, if_pos rfl, if_pos h]
  · rw [if_neg h, if_neg (by decide), if_neg h]
theorem zif10 {α : Type} {C : Prop} {d : Decidable C} {x y : α} : (if (if C then (1 : Int32) else 0) = 0 then x else y) = if C then y else x := by
  by_cases h : C
  · rw [if_pos h, if_neg (by decide), if_pos h]
  · rw [if_neg h, if_pos rfl, if_neg h]
def zms (l1 l2 l3 l4 : Int32) : Int32 := (l3 ||| (((l1 >>> (l4 &&& 31)) &&& 1) <<< ((2 * l4) &&& 31))) ||| (((l2 >>> (l4 &&& 31)) &&& 1) <<< (((2 * l4) + 1) &&& 31))
def zmI (x y : Int32) : Int32 := zms x y (zms x y (zms x y (zms x y (zms x y 0 0) (0 + 1)) (0 + 1 + 1)) (0 + 1 + 1 + 1)) (0 + 1 + 1 + 1 + 1)
def znum (o x y : Nat) : Nat := if o = 0 then 32 * y + x else if o = 2 then 32 * y + (if y % 2 = 0 then x else 31 - x) else (zmI (Int32.ofNat x) (Int32.ofNat y)).toInt.toNat
theorem zmI_rng : ∀ x y : Fin 32, 0 ≤ (zmI (Int32.ofNat x) (Int32.ofNat y)).toInt ∧ (zmI (Int32.ofNat x) (Int32.ofNat y)).toInt < 1024 := by decide +kernel
theorem zmI_x : ∀ x y : Fin 32, x.val + 1 < 32 → (zmI (Int32.ofNat x) (Int32.ofNat y)).toInt ≤ (zmI (Int32.ofNat (x.val + 1)) (Int32.ofNat y)).toInt := by decide +kernel
theorem zmI_y : ∀ x y : Fin 32, y.val + 1 < 32 → (zmI (Int32.ofNat x) (Int32.ofNat y)).toInt ≤ (zmI (Int32.ofNat x) (Int32.ofNat (y.val + 1))).toInt := by decide +kernel
theorem zmN {x y : Nat} (hx : x < 32) (hy : y < 32) : zmI (Int32.ofNat x) (Int32.ofNat y) = Int32.ofNat (znum 1 x y) ∧ znum 1 x y < 1024 := by
  have := zmI_rng ⟨x, hx⟩ ⟨y, hy⟩
  simp only at this
  have e : znum 1 x y = (zmI (Int32.ofNat x) (Int32.ofNat y)).toInt.toNat := rfl
  rw [e]
  exact ⟨by rw [zi_eq, zn_int (by omega)]; omega, by omega⟩
theorem znum1_x {x y : Nat} (hy : y < 32) : ∀ d, x + d < 32 → znum 1 x y ≤ znum 1 (x + d) y
  | 0, _ => Nat.le_refl _
  | d + 1, h => by
    have ih := znum1_x (x := x) hy d (by omega)
    have := zmI_x ⟨x + d, by omega⟩ ⟨y, hy⟩ (by simp only; omega)
    have e : ∀ a b, znum 1 a b = (zmI (Int32.ofNat a) (Int32.ofNat b)).toInt.toNat := fun _ _ => rfl
    rw [e, e] at *
    simp only at this
    rw [show x + (d + 1) = x + d + 1 by omega]
    omega
theorem znum1_y {x y : Nat} (hx : x < 32) : ∀ d, y + d < 32 → znum 1 x y ≤ znum 1 x (y + d)
  | 0, _ => Nat.le_refl _
  | d + 1, h => by
    have ih := znum1_y (y := y) hx d (by omega)
    have := zmI_y ⟨x, hx⟩ ⟨y + d, by omega⟩ (by simp only; omega)
    have e : ∀ a b, znum 1 a b = (zmI (Int32.ofNat a) (Int32.ofNat b)).toInt.toNat := fun _ _ => rfl
    rw [e, e] at *
    simp only at this
    rw [show y + (d + 1) = y + d + 1 by omega]
    omega
theorem znum2 (x y : Nat) : znum 2 x y = 32 * y + (if y % 2 = 0 then x else 31 - x) := rfl
theorem znum_lt {o x y : Nat} (ho : o < 3) (hx : x < 32) (hy : y < 32) : znum o x y < 1024 := by
  rcases (by omega : o = 0 ∨ o = 1 ∨ o = 2) with rfl | rfl | rfl
  · unfold znum; rw [if_pos rfl]; omega
  · exact (zmN hx hy).2
  · unfold znum; rw [if_neg (by decide), if_pos rfl]
    split <;> omega
def zcmin (o x0 y0 x1 y1 : Nat) : Nat := min (min (min (znum o x0 y0) (znum o x1 y0)) (znum o x0 y1)) (znum o x1 y1)
def zcmax (o x0 y0 x1 y1 : Nat) : Nat := max (max (max (znum o x0 y0) (znum o x1 y0)) (znum o x0 y1)) (znum o x1 y1)
/-- the least and the greatest number of a box are at corners -/
theorem zcorner {o x0 y0 x1 y1 x y : Nat} (ho : o < 3) (h1 : x0 ≤ x) (h2 : x ≤ x1) (h3 : x1 < 32) (h4 : y0 ≤ y) (h5 : y ≤ y1) (h6 : y1 < 32) : zcmin o x0 y0 x1 y1 ≤ znum o x y ∧ znum o x y ≤ zcmax o x0 y0 x1 y1 := by
  unfold zcmin zcmax
  rcases (by omega : o = 0 ∨ o = 1 ∨ o = 2) with rfl | rfl | rfl
  · unfold znum
    simp only [if_true]
    omega
  · have a1 := znum1_x (x := x0) (y := y0) (by omega) (x - x0) (by omega)
    have a2 := znum1_y (x := x) (y := y0) (by omega) (y - y0) (by omega)
    have a3 := znum1_x (x := x) (y := y) (by omega) (x1 - x) (by omega)
    have a4 := znum1_y (x := x1) (y := y) (by omega) (y1 - y) (by omega)
    rw [show x0 + (x - x0) = x by omega] at a1
    rw [show y0 + (y - y0) = y by omega] at a2
    rw [show x + (x1 - x) = x1 by omega] at a3
    rw [show y + (y1 - y) = y1 by omega] at a4
    omega
  · have e : ∀ a b, znum 2 a b = 32 * b + (if b % 2 = 0 then a else 31 - a) := fun _ _ => rfl
    simp only [e]
    split <;> split <;> split <;> omega
section ZPL
variable (X : zv_X) {b : Bool} {J : zJ} {I : zI}
theorem c_number {o x y : Nat} (ho : o < 3) (hx : x < 32) (hy : y < 32) (M : zv_M) : zg_Plane_number_0 X (Int32.ofNat o) (Int32.ofNat x) (Int32.ofNat y) M = some (some (.int (Int32.ofNat (znum o x y))), M) := by
  rcases (by omega : o = 0 ∨ o = 1 ∨ o = 2) with rfl | rfl | rfl
  · rw [zg_Plane_number_0_e, if_pos (by decide), zkm32, zn_add]; rfl
  · rw [zg_Plane_number_0_e, if_neg (by decide), zg_Plane_number_11_e, if_neg (by decide), zg_Plane_number_36_e]
    have st : ∀ l3 l4 : Int32, ¬ (5 ≤ l4) → zg_Plane_number_41 X (Int32.ofNat x) (Int32.ofNat y) l3 l4 M = zg_Plane_number_41 X (Int32.ofNat x) (Int32.ofNat y) (zms (Int32.ofNat x) (Int32.ofNat y) l3 l4) (l4 + 1) M := fun l3 l4 h => by
      conv => lhs; rw [zg_Plane_number_41_e, if_neg h]
      rfl
    rw [st _ _ (by decide), st _ _ (by decide), st _ _ (by decide), st _ _ (by decide), st _ _ (by decide), zg_Plane_number_41_e, if_pos (by decide), zg_Plane_number_83_e, ← (zmN hx hy).1]
    rfl
  · have e1 : Int32.ofNat y - Int32.ofNat y / 2 * 2 = Int32.ofNat (y % 2) := by
      rw [zkd2 (by omega), show (2 : Int32) = Int32.ofNat 2 from rfl, zn_mul, zn_sub (by omega)]
      congr 1; omega
    rw [zg_Plane_number_0_e, if_neg (by decide), zg_Plane_number_11_e, if_pos (by decide), if_neg (by decide), e1, zkm32]
    rw [znum2]
    by_cases c : y % 2 = 0
    · rw [if_pos ((zke0 (by omega)).mpr c), if_pos c, zg_Plane_number_34_e, zn_add]
    · rw [if_neg (fun q => c ((zke0 (by omega)).mp q)), if_neg c, zg_Plane_number_30_e, zg_Plane_number_34_e, zkt31 (by omega), zn_add]
theorem m_number {o x y : Nat} (ho : o < 3) (hx : x < 32) (hy : y < 32) (M : zv_M) : zg_M_numberBy_0 X (Int32.ofNat o) (Int32.ofNat x) (Int32.ofNat y) M = some (some (.int (Int32.ofNat (znum o x y))), M) := by
  rcases (by omega : o = 0 ∨ o = 1 ∨ o = 2) with rfl | rfl | rfl
  · rw [zg_M_numberBy_0_e, if_pos (by decide), zkm32, zn_add]; rfl
  · rw [zg_M_numberBy_0_e, if_neg (by decide), zg_M_numberBy_11_e, if_neg (by decide), zg_M_numberBy_37_e]
    have st : ∀ l3 l4 : Int32, ¬ (5 ≤ l4) → zg_M_numberBy_42 X (Int32.ofNat x) (Int32.ofNat y) l3 l4 M = zg_M_numberBy_42 X (Int32.ofNat x) (Int32.ofNat y) (zms (Int32.ofNat x) (Int32.ofNat y) l3 l4) (l4 + 1) M := fun l3 l4 h => by
      conv => lhs; rw [zg_M_numberBy_42_e, if_neg h]
      rw [← Int32.or_assoc]
      rfl
    rw [st _ _ (by decide), st _ _ (by decide), st _ _ (by decide), st _ _ (by decide), st _ _ (by decide), zg_M_numberBy_42_e, if_pos (by decide), zg_M_numberBy_82_e, ← (zmN hx hy).1]
    rfl
  · have e1 : Int32.ofNat y - Int32.ofNat y / 2 * 2 = Int32.ofNat (y % 2) := by
      rw [zkd2 (by omega), show (2 : Int32) = Int32.ofNat 2 from rfl, zn_mul, zn_sub (by omega)]
      congr 1; omega
    rw [zg_M_numberBy_0_e, if_neg (by decide), zg_M_numberBy_11_e, if_pos (by decide), if_neg (by decide), e1, zkm32]
    rw [znum2]
    by_cases c : y % 2 = 0
    · rw [if_neg (fun q => absurd ((zke1 (i := y % 2) (by omega)).mp q) (by omega)), if_pos c, zg_M_numberBy_34_e, zg_M_numberBy_35_e, zn_add]
    · rw [if_pos ((zke1 (i := y % 2) (by omega)).mpr (by omega)), if_neg c, zg_M_numberBy_35_e, zkt31 (by omega), zn_add]
end ZPL
