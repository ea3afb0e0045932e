/-! the pieces of a row, by greed -/
theorem zfe0 (x : Nat → Int) (e : Nat) : zfe x e 0 := fun i j i' j' h1 h2 => by omega
noncomputable def zrchA (x : Nat → Int) (e : Nat) : Nat → Nat → Nat
  | 0, k => k
  | m + 1, k => @ite _ (zfe x e (k + 1)) (Classical.propDecidable _) (zrchA x e m (k + 1)) k
theorem zrchA_spec (x : Nat → Int) (e : Nat) : ∀ m k, zfe x e k → k ≤ zrchA x e m k ∧ zrchA x e m k ≤ k + m ∧ zfe x e (zrchA x e m k) ∧ (zrchA x e m k = k + m ∨ ¬ zfe x e (zrchA x e m k + 1))
  | 0, k, h => ⟨Nat.le_refl _, Nat.le_refl _, h, Or.inl rfl⟩
  | m + 1, k, h => by
    rw [zrchA]
    rcases Classical.em (zfe x e (k + 1)) with c | c
    · rw [if_pos c]
      obtain ⟨h1, h2, h3, h4⟩ := zrchA_spec x e m (k + 1) c
      exact ⟨by omega, by omega, h3, h4.elim (fun h => Or.inl (by omega)) Or.inr⟩
    · rw [if_neg c]
      exact ⟨Nat.le_refl _, by omega, h, Or.inr c⟩
noncomputable def zrch (x : Nat → Int) (e n : Nat) : Nat := zrchA x e (n - 1) 0
theorem zrch_spec (x : Nat → Int) (e : Nat) {n : Nat} (hn : 0 < n) : zrch x e n < n ∧ zfe x e (zrch x e n) ∧ (zrch x e n + 1 = n ∨ ¬ zfe x e (zrch x e n + 1)) := by
  obtain ⟨h1, h2, h3, h4⟩ := zrchA_spec x e (n - 1) 0 (zfe0 x e)
  exact ⟨by unfold zrch; omega, h3, h4.elim (fun h => Or.inl (by unfold zrch; omega)) Or.inr⟩
theorem zrch_uniq {x : Nat → Int} {e n r : Nat} (h1 : r < n) (h2 : zfe x e r) (h3 : r + 1 = n ∨ ¬ zfe x e (r + 1)) : zrch x e n = r := by
  obtain ⟨g1, g2, g3⟩ := zrch_spec x e (show 0 < n by omega)
  rcases Nat.lt_trichotomy (zrch x e n) r with c | c | c
  · rcases g3 with g3 | g3
    · omega
    · exact absurd (zfe_mono h2 (show zrch x e n + 1 ≤ r by omega)) g3
  · exact c
  · rcases h3 with h3 | h3
    · omega
    · exact absurd (zfe_mono g2 (show r + 1 ≤ zrch x e n by omega)) h3
/-- where the pieces begin -/
noncomputable def zF (f : Nat → Int) (n e : Nat) : Nat → Nat
  | 0 => 0
  | k + 1 => if zF f n e k < n then zF f n e k + zrch (fun i => f (zF f n e k + i)) e (n - zF f n e k) + 1 else zF f n e k
theorem zF_succ {f : Nat → Int} {n e k : Nat} (h : zF f n e k < n) : zF f n e (k + 1) = zF f n e k + zrch (fun i => f (zF f n e k + i)) e (n - zF f n e k) + 1 := by
  rw [zF, if_pos h]
theorem zF_le (f : Nat → Int) (n e : Nat) : ∀ k, zF f n e k ≤ n
  | 0 => Nat.zero_le _
  | k + 1 => by
    have ih := zF_le f n e k
    rcases Nat.lt_or_ge (zF f n e k) n with c | c
    · rw [zF_succ c]
      have := (zrch_spec (fun i => f (zF f n e k + i)) e (show 0 < n - zF f n e k by omega)).1
      omega
    · rw [zF, if_neg (by omega)]; exact ih
theorem zF_ge (f : Nat → Int) (n e : Nat) : ∀ k, zF f n e k < n → k ≤ zF f n e k
  | 0, _ => Nat.zero_le _
  | k + 1, h => by
    rcases Nat.lt_or_ge (zF f n e k) n with c | c
    · have ih := zF_ge f n e k c
      rw [zF_succ c]; omega
    · rw [zF, if_neg (by omega)] at h; omega
noncomputable def zNpA (f : Nat → Int) (n e : Nat) : Nat → Nat → Nat
  | 0, k => k
  | m + 1, k => if zF f n e k < n then zNpA f n e m (k + 1) else k
noncomputable def zNp (f : Nat → Int) (n e : Nat) : Nat := zNpA f n e n 0
theorem zNpA_spec (f : Nat → Int) (n e : Nat) : ∀ m k, n ≤ k + m → (∀ j, j < k → zF f n e j < n) → ¬ zF f n e (zNpA f n e m k) < n ∧ ∀ j, j < zNpA f n e m k → zF f n e j < n
  | 0, k, h, hk => by
    refine ⟨fun c => ?_, hk⟩
    have := zF_ge f n e k c
    have c' : zF f n e k < n := c
    omega
  | m + 1, k, h, hk => by
    rw [zNpA]
    split
    · rename_i c
      exact zNpA_spec f n e m (k + 1) (by omega) (fun j hj => by
        rcases Nat.lt_or_ge j k with d | d
        · exact hk j d
        · have : j = k := by omega
          rw [this]; exact c)
    · rename_i c
      exact ⟨c, hk⟩
theorem zNp_spec (f : Nat → Int) (n e : Nat) : zF f n e (zNp f n e) = n ∧ ∀ j, j < zNp f n e → zF f n e j < n := by
  obtain ⟨h1, h2⟩ := zNpA_spec f n e n 0 (by omega) (fun j hj => by omega)
  have := zF_le f n e (zNp f n e)
  exact ⟨by unfold zNp at *; omega, h2⟩
theorem zNp_uniq {f : Nat → Int} {n e N : Nat} (h1 : ¬ zF f n e N < n) (h2 : ∀ j, j < N → zF f n e j < n) : zNp f n e = N := by
  obtain ⟨g1, g2⟩ := zNp_spec f n e
  rcases Nat.lt_trichotomy (zNp f n e) N with c | c | c
  · have := h2 _ c; omega
  · exact c
  · exact absurd (g2 _ c) h1
theorem zF_mono {f : Nat → Int} {n e : Nat} : ∀ {j k}, j < k → k ≤ zNp f n e → zF f n e j < zF f n e k := by
  intro j k hjk hk
  have step : ∀ i, i < zNp f n e → zF f n e i < zF f n e (i + 1) := fun i hi => by
    have := (zNp_spec f n e).2 i hi
    rw [zF_succ this]; omega
  induction k with
  | zero => omega
  | succ k ih =>
    rcases Nat.lt_or_ge j k with c | c
    · exact Nat.lt_trans (ih c (by omega)) (step k (by omega))
    · have : j = k := by omega
      subst this; exact step j (by omega)
def zupto (f : Nat → Int) (n : Nat) : Prop := ∀ i j, i < j → j < n → f i < f j
/-- two keys always share a piece -/
theorem zF_two {f : Nat → Int} {n e : Nat} (hf : zupto f n) : ∀ k, min n (2 * k) ≤ zF f n e k
  | 0 => by omega
  | k + 1 => by
    have ih := zF_two (e := e) hf k
    rcases Nat.lt_or_ge (zF f n e k) n with c | c
    · rw [zF_succ c]
      obtain ⟨g1, g2, g3⟩ := zrch_spec (fun i => f (zF f n e k + i)) e (show 0 < n - zF f n e k by omega)
      rcases Nat.lt_or_ge (zF f n e k + 1) n with w | w
      · have : 1 ≤ zrch (fun i => f (zF f n e k + i)) e (n - zF f n e k) := by
          rcases Nat.lt_or_ge 0 (zrch (fun i => f (zF f n e k + i)) e (n - zF f n e k)) with d | d
          · exact d
          · exfalso
            have d0 : zrch (fun i => f (zF f n e k + i)) e (n - zF f n e k) = 0 := by omega
            rw [d0] at g3
            rcases g3 with g3 | g3
            · omega
            · apply g3
              intro i j i' j' h1 h2 h3 h4
              have e1 : i = 0 := by omega
              have e2 : j = 1 := by omega
              have e3 : i' = 0 := by omega
              have e4 : j' = 1 := by omega
              subst e1 e2 e3 e4
              have := hf (zF f n e k) (zF f n e k + 1) (by omega) w
              exact Int.mul_le_mul_of_nonneg_right (by omega) (by simp only [Nat.add_zero]; omega)
        omega
      · omega
    · rw [zF, if_neg (by omega)]
      have := zF_le f n e k
      omega
theorem zNp_half {f : Nat → Int} {n e : Nat} (hf : zupto f n) : zNp f n e ≤ (n + 1) / 2 := by
  rcases Nat.lt_or_ge ((n + 1) / 2) (zNp f n e) with c | c
  · have h1 := (zNp_spec f n e).2 _ c
    have h2 := zF_two (e := e) hf ((n + 1) / 2)
    omega
  · exact c
theorem zNp_pos {f : Nat → Int} {n e : Nat} (hn : 0 < n) : 0 < zNp f n e := by
  rcases Nat.eq_zero_or_pos (zNp f n e) with c | c
  · have := (zNp_spec f n e).1
    rw [c] at this
    have e0 : zF f n e 0 = 0 := rfl
    omega
  · exact c
/-- the slope of a piece, as a fraction of least terms -/
theorem zSlp_eq {x : Nat → Int} {e k : Nat} {p q p' q' : Int} (h : zSlp x e k p q) (h' : zSlp x e k p' q') : p * q' = p' * q := by
  have key : ∀ {p q p' q' : Int}, zSlp x e k p q → zSlp x e k p' q' → p * q' ≤ p' * q := by
    intro p q p' q' h h'
    obtain ⟨h1, h2, h3, h4⟩ := h
    obtain ⟨g1, g2, g3, g4⟩ := h'
    rcases h4 with ⟨rfl, rfl⟩ | ⟨i, j, k1, k2, rfl, rfl⟩
    · omega
    · exact g3 i j k1 k2
  have a1 := key h h'
  have a2 := key h' h
  omega
theorem zredN {a b c d : Nat} (h : a * d = c * b) (hb : 0 < b) (hd : 0 < d) : a / Nat.gcd a b = c / Nat.gcd c d ∧ b / Nat.gcd a b = d / Nat.gcd c d := by
  have hg : 0 < Nat.gcd a b := Nat.gcd_pos_of_pos_right a hb
  have hg' : 0 < Nat.gcd c d := Nat.gcd_pos_of_pos_right c hd
  have e : Nat.gcd a b * d = Nat.gcd c d * b := by
    rw [← Nat.gcd_mul_right, ← Nat.gcd_mul_right, h, Nat.mul_comm b d]
  obtain ⟨a1, ha⟩ := Nat.gcd_dvd_left a b
  obtain ⟨b1, hb1⟩ := Nat.gcd_dvd_right a b
  obtain ⟨c1, hc⟩ := Nat.gcd_dvd_left c d
  obtain ⟨d1, hd1⟩ := Nat.gcd_dvd_right c d
  generalize Nat.gcd a b = g at *
  generalize Nat.gcd c d = g' at *
  subst ha hb1 hc hd1
  rw [Nat.mul_div_cancel_left _ hg, Nat.mul_div_cancel_left _ hg', Nat.mul_div_cancel_left _ hg, Nat.mul_div_cancel_left _ hg']
  have e1 : b1 = d1 := by
    apply Nat.eq_of_mul_eq_mul_left (Nat.mul_pos hg hg')
    rw [Nat.mul_assoc, Nat.mul_left_comm, Nat.mul_assoc, ← e]
  subst e1
  have hb0 : 0 < b1 := Nat.pos_of_mul_pos_left hb
  refine ⟨?_, rfl⟩
  apply Nat.eq_of_mul_eq_mul_left (Nat.mul_pos hg (Nat.mul_pos hg' hb0))
  have : g * a1 * (g' * b1) = g' * c1 * (g * b1) := h
  grind
def zred (x : Nat → Int) (e k : Nat) (P Q : Int) : Prop := ∃ p q, zSlp x e k p q ∧ P = p / (Nat.gcd p.toNat q.toNat : Nat) ∧ Q = q / (Nat.gcd p.toNat q.toNat : Nat)
theorem zred_uniq {x : Nat → Int} {e k : Nat} {P Q P' Q' : Int} (h : zred x e k P Q) (h' : zred x e k P' Q') : P = P' ∧ Q = Q' := by
  obtain ⟨p, q, s1, rfl, rfl⟩ := h
  obtain ⟨p', q', s2, rfl, rfl⟩ := h'
  have he := zSlp_eq s1 s2
  obtain ⟨a1, a2, -, -⟩ := s1
  obtain ⟨b1, b2, -, -⟩ := s2
  obtain ⟨a, rfl⟩ := Int.eq_ofNat_of_zero_le a2
  obtain ⟨b, rfl⟩ := Int.eq_ofNat_of_zero_le (Int.le_of_lt a1)
  obtain ⟨c, rfl⟩ := Int.eq_ofNat_of_zero_le b2
  obtain ⟨d, rfl⟩ := Int.eq_ofNat_of_zero_le (Int.le_of_lt b1)
  have h1 : a * d = c * b := by
    have : ((a * d : Nat) : Int) = ((c * b : Nat) : Int) := by rw [Int.natCast_mul, Int.natCast_mul]; exact he
    exact Int.ofNat.inj this
  obtain ⟨r1, r2⟩ := zredN h1 (by omega) (by omega)
  simp only [Int.toNat_natCast]
  rw [← Int.natCast_ediv, ← Int.natCast_ediv, ← Int.natCast_ediv, ← Int.natCast_ediv, r1, r2]
  exact ⟨rfl, rfl⟩
noncomputable def zslP (x : Nat → Int) (e k : Nat) : Int := Classical.epsilon (fun P => ∃ Q, zred x e k P Q)
noncomputable def zslQ (x : Nat → Int) (e k : Nat) : Int := Classical.epsilon (fun Q => ∃ P, zred x e k P Q)
theorem zred_val {x : Nat → Int} {e k : Nat} {P Q : Int} (h : zred x e k P Q) : zslP x e k = P ∧ zslQ x e k = Q := by
  have h1 : ∃ Q, zred x e k (zslP x e k) Q := Classical.epsilon_spec (p := fun P => ∃ Q, zred x e k P Q) ⟨P, Q, h⟩
  have h2 : ∃ P, zred x e k P (zslQ x e k) := Classical.epsilon_spec (p := fun Q => ∃ P, zred x e k P Q) ⟨Q, P, h⟩
  obtain ⟨Q1, h1⟩ := h1
  obtain ⟨P1, h2⟩ := h2
  exact ⟨(zred_uniq h1 h).1, (zred_uniq h2 h).2⟩
/-- bounds of the least terms -/
theorem zred_bd {x : Nat → Int} {e k : Nat} {P Q : Int} (h : zred x e k P Q) (hk : k ≤ 400) (hx : ∀ i, -2147483648 ≤ x i ∧ x i ≤ 2147483647) : 0 ≤ P ∧ P ≤ 400 ∧ 0 < Q ∧ Q ≤ 4294967295 := by
  obtain ⟨p, q, ⟨s1, s2, s3, s4⟩, rfl, rfl⟩ := h
  have hp : p ≤ 400 := by
    rcases s4 with ⟨rfl, -⟩ | ⟨i, j, k1, k2, rfl, -⟩ <;> omega
  have hq : q ≤ 4294967295 := by
    rcases s4 with ⟨-, rfl⟩ | ⟨i, j, k1, k2, -, rfl⟩
    · omega
    · have := hx i
      have := hx j
      omega
  have hg : 0 < Nat.gcd p.toNat q.toNat := Nat.gcd_pos_of_pos_right _ (by omega)
  have hdq : (Nat.gcd p.toNat q.toNat : Int) ∣ q := by
    have := Nat.gcd_dvd_right p.toNat q.toNat
    have h2 := Int.natCast_dvd_natCast.mpr this
    rwa [Int.toNat_of_nonneg (by omega)] at h2
  have hgi : (0 : Int) < (Nat.gcd p.toNat q.toNat : Nat) := by exact_mod_cast hg
  refine ⟨Int.ediv_nonneg s2 (Int.le_of_lt hgi), ?_, ?_, ?_⟩
  · have := Int.ediv_le_self (Nat.gcd p.toNat q.toNat : Nat) s2
    omega
  · exact Int.ediv_pos_of_pos_of_dvd s1 (Int.le_of_lt hgi) hdq
  · have := Int.ediv_le_self (Nat.gcd p.toNat q.toNat : Nat) (Int.le_of_lt s1)
    omega
/-- the line of a piece: as low as all its places allow -/
def zLn (f : Nat → Int) (e a c : Nat) (P Q L : Int) : Prop := (∀ t : Nat, a ≤ t → t < c → Q * ((t : Int) - e) - P * f t ≤ L) ∧ ∃ t : Nat, a ≤ t ∧ t < c ∧ L = Q * ((t : Int) - e) - P * f t
theorem zLn_uniq {f : Nat → Int} {e a c : Nat} {P Q L L' : Int} (h : zLn f e a c P Q L) (h' : zLn f e a c P Q L') : L = L' := by
  obtain ⟨h1, t, h2, h3, h4⟩ := h
  obtain ⟨g1, s, g2, g3, g4⟩ := h'
  have := h1 s g2 g3
  have := g1 t h2 h3
  omega
def zgv (P Q L : Int) (c : Nat) (x : Int) : Int := max 0 (min ((P * x + L) / Q) c)
/-- the greatest of the floors is the floor of the greatest -/
theorem zfloor {f : Nat → Int} {e a c : Nat} {P Q L x B : Int} (hQ : 0 < Q) (h : zLn f e a c P Q L) (h1 : ∀ t : Nat, a ≤ t → t < c → (t : Int) - e + (P * (x - f t)) / Q ≤ B) (h2 : ∃ t : Nat, a ≤ t ∧ t < c ∧ B = (t : Int) - e + (P * (x - f t)) / Q) : B = (P * x + L) / Q := by
  obtain ⟨g1, t, g2, g3, g4⟩ := h
  obtain ⟨s, k1, k2, k3⟩ := h2
  have val : ∀ t : Nat, (t : Int) - e + (P * (x - f t)) / Q = (P * x + (Q * ((t : Int) - e) - P * f t)) / Q := fun t => by
    have : P * x + (Q * ((t : Int) - e) - P * f t) = P * (x - f t) + Q * ((t : Int) - e) := by grind
    rw [this, Int.add_mul_ediv_left _ _ (by omega)]
    omega
  apply Int.le_antisymm
  · rw [k3, val]
    exact Int.ediv_le_ediv hQ (by have := g1 s k1 k2; omega)
  · rw [g4, ← val]
    exact h1 t g2 g3
