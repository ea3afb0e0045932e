/-! slopes -/
theorem zq_test {a b c d : Int} (h : a * b ≤ c * d) (h' : c * d + a ≤ b * a + 3) : a ≤ 3 := by
  grind
theorem zq_test2 {a b c x y : Int} (h : (a - b) * (x - y) ≤ c) (h2 : a * x - a * y - b * x + b * y ≥ c + 1) : False := by
  grind
theorem zq3 {du1 du2 du3 dx1 dx2 dx3 : Int} (h1 : du1 * dx2 < du2 * dx1) (h2 : du2 * dx3 < du3 * dx2) (p1 : 0 < dx1) (p2 : 0 < dx2) (p3 : 0 < dx3) : du1 * dx3 < du3 * dx1 := by
  have a1 := Int.mul_lt_mul_of_pos_right h1 p3
  have a2 := Int.mul_lt_mul_of_pos_right h2 p1
  apply Int.lt_of_mul_lt_mul_left (a := dx2) _ (Int.le_of_lt p2)
  grind
