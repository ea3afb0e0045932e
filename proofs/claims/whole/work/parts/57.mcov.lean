/-! the reference's levels -/
section ZMT
variable (X : zv_X) {b : Bool}
theorem zml12 {P : Nat → Prop} (h : P 0 ∧ P 1 ∧ P 2 ∧ P 3 ∧ P 4 ∧ P 5 ∧ P 6 ∧ P 7 ∧ P 8 ∧ P 9 ∧ P 10 ∧ P 11) : ∀ l, l < 12 → P l := by
  obtain ⟨h0, h1, h2, h3, h4, h5, h6, h7, h8, h9, h10, h11⟩ := h
  intro l hl
  rcases (by omega : l = 0 ∨ l = 1 ∨ l = 2 ∨ l = 3 ∨ l = 4 ∨ l = 5 ∨ l = 6 ∨ l = 7 ∨ l = 8 ∨ l = 9 ∨ l = 10 ∨ l = 11) with rfl | rfl | rfl | rfl | rfl | rfl | rfl | rfl | rfl | rfl | rfl | rfl <;> assumption
theorem zmp188 (b : Bool) : ∀ l, l < 12 → zP b 188 l = some (189 + l) ∧ zSH[189 + l]? = some (.inl (0, 302)) := zml12 ⟨⟨rfl, rfl⟩, ⟨rfl, rfl⟩, ⟨rfl, rfl⟩, ⟨rfl, rfl⟩, ⟨rfl, rfl⟩, ⟨rfl, rfl⟩, ⟨rfl, rfl⟩, ⟨rfl, rfl⟩, ⟨rfl, rfl⟩, ⟨rfl, rfl⟩, ⟨rfl, rfl⟩, ⟨rfl, rfl⟩⟩
theorem zmp201 (b : Bool) : ∀ l, l < 12 → zP b 201 l = some (202 + l) ∧ zSH[202 + l]? = some (.inl (0, 302)) := zml12 ⟨⟨rfl, rfl⟩, ⟨rfl, rfl⟩, ⟨rfl, rfl⟩, ⟨rfl, rfl⟩, ⟨rfl, rfl⟩, ⟨rfl, rfl⟩, ⟨rfl, rfl⟩, ⟨rfl, rfl⟩, ⟨rfl, rfl⟩, ⟨rfl, rfl⟩, ⟨rfl, rfl⟩, ⟨rfl, rfl⟩⟩
theorem zmp214 (b : Bool) : ∀ l, l < 12 → zP b 214 l = some (215 + l) ∧ zSH[215 + l]? = some (.inl (0, 302)) := zml12 ⟨⟨rfl, rfl⟩, ⟨rfl, rfl⟩, ⟨rfl, rfl⟩, ⟨rfl, rfl⟩, ⟨rfl, rfl⟩, ⟨rfl, rfl⟩, ⟨rfl, rfl⟩, ⟨rfl, rfl⟩, ⟨rfl, rfl⟩, ⟨rfl, rfl⟩, ⟨rfl, rfl⟩, ⟨rfl, rfl⟩⟩
theorem zmp227 (b : Bool) : ∀ l, l < 12 → zP b 227 l = some (228 + l) ∧ zSH[228 + l]? = some (.inl (1, 302)) := zml12 ⟨⟨rfl, rfl⟩, ⟨rfl, rfl⟩, ⟨rfl, rfl⟩, ⟨rfl, rfl⟩, ⟨rfl, rfl⟩, ⟨rfl, rfl⟩, ⟨rfl, rfl⟩, ⟨rfl, rfl⟩, ⟨rfl, rfl⟩, ⟨rfl, rfl⟩, ⟨rfl, rfl⟩, ⟨rfl, rfl⟩⟩
theorem zmp240 (b : Bool) : ∀ l, l < 12 → zP b 240 l = some (241 + l) ∧ zSH[241 + l]? = some (.inl (1, 302)) := zml12 ⟨⟨rfl, rfl⟩, ⟨rfl, rfl⟩, ⟨rfl, rfl⟩, ⟨rfl, rfl⟩, ⟨rfl, rfl⟩, ⟨rfl, rfl⟩, ⟨rfl, rfl⟩, ⟨rfl, rfl⟩, ⟨rfl, rfl⟩, ⟨rfl, rfl⟩, ⟨rfl, rfl⟩, ⟨rfl, rfl⟩⟩
variable {I : zI} {J : zJ} {α : Type} {l : Nat}
theorem zmt {a t : Nat} {k : Nat → Option α} (h : zSH[a]? = some (.inl (t, 12))) (ht : 4 ≤ t ∧ t < 7) {r : Nat} (hp : zP b a l = some r) (hl : l < 12) : zv_iq (zM b I J) a (Int32.ofNat l) (fun j => zv_rf (zP b a j) k) = k r := by
  rw [ziq h ht hl (by decide), hp, zrf]
theorem zmt188 {k : Nat → Option α} (hl : l < 12) : zv_iq (zM b I J) 188 (Int32.ofNat l) (fun j => zv_rf (zP b 188 j) k) = k (189 + l) := zmt (t := 5) rfl (by decide) (zmp188 b l hl).1 hl
theorem zmt201 {k : Nat → Option α} (hl : l < 12) : zv_iq (zM b I J) 201 (Int32.ofNat l) (fun j => zv_rf (zP b 201 j) k) = k (202 + l) := zmt (t := 5) rfl (by decide) (zmp201 b l hl).1 hl
theorem zmt214 {k : Nat → Option α} (hl : l < 12) : zv_iq (zM b I J) 214 (Int32.ofNat l) (fun j => zv_rf (zP b 214 j) k) = k (215 + l) := zmt (t := 5) rfl (by decide) (zmp214 b l hl).1 hl
theorem zmt227 {k : Nat → Option α} (hl : l < 12) : zv_iq (zM b I J) 227 (Int32.ofNat l) (fun j => zv_rf (zP b 227 j) k) = k (228 + l) := zmt (t := 6) rfl (by decide) (zmp227 b l hl).1 hl
theorem zmt240 {k : Nat → Option α} (hl : l < 12) : zv_iq (zM b I J) 240 (Int32.ofNat l) (fun j => zv_rf (zP b 240 j) k) = k (241 + l) := zmt (t := 6) rfl (by decide) (zmp240 b l hl).1 hl
theorem zmx189 {k : Nat → Option α} {j : Nat} (hl : l < 12) (hj : j < 302) : zv_ix (zM b I J) 0 (189 + l) (Int32.ofNat j) k = k j := zix (zmp188 b l hl).2 hj (by decide)
theorem zmx202 {k : Nat → Option α} {j : Nat} (hl : l < 12) (hj : j < 302) : zv_ix (zM b I J) 0 (202 + l) (Int32.ofNat j) k = k j := zix (zmp201 b l hl).2 hj (by decide)
theorem zmx215 {k : Nat → Option α} {j : Nat} (hl : l < 12) (hj : j < 302) : zv_ix (zM b I J) 0 (215 + l) (Int32.ofNat j) k = k j := zix (zmp214 b l hl).2 hj (by decide)
theorem zmx228 {k : Nat → Option α} {j : Nat} (hl : l < 12) (hj : j < 302) : zv_ix (zM b I J) 1 (228 + l) (Int32.ofNat j) k = k j := zix (zmp227 b l hl).2 hj (by decide)
theorem zmx241 {k : Nat → Option α} {j : Nat} (hl : l < 12) (hj : j < 302) : zv_ix (zM b I J) 1 (241 + l) (Int32.ofNat j) k = k j := zix (zmp240 b l hl).2 hj (by decide)
end ZMT
/-! greatest slopes, pair by pair -/
def zmx (w : Nat → Nat → Int) (x : Nat → Int) (pr : Nat → Nat → Prop) (p q : Int) : Prop := (q = 0 ∧ ∀ i j, ¬ pr i j) ∨ (0 < q ∧ (∀ i j, pr i j → w i j * q ≤ p * (x j - x i)) ∧ ∃ i j, pr i j ∧ p = w i j ∧ q = x j - x i)
def zpr (k t : Nat) (i j : Nat) : Prop := i < j ∧ (j < k ∨ (j = k ∧ i < t))
theorem zmx_step {w : Nat → Nat → Int} {x : Nat → Int} {k t : Nat} {p q : Int} (hx : ∀ i j, i < j → j ≤ k → x i < x j) (ht : t < k) (h : zmx w x (zpr k t) p q) : ((q = 0 ∨ p * (x k - x t) < w t k * q) → zmx w x (zpr k (t + 1)) (w t k) (x k - x t)) ∧ (¬ (q = 0 ∨ p * (x k - x t) < w t k * q) → zmx w x (zpr k (t + 1)) p q) := by
  have hD := hx t k ht (Nat.le_refl _)
  have hcase : ∀ i j, zpr k (t + 1) i j → zpr k t i j ∨ (i = t ∧ j = k) := fun i j hp => by
    obtain ⟨h1, h2⟩ := hp
    rcases h2 with h2 | ⟨h2, h3⟩
    · exact Or.inl ⟨h1, Or.inl h2⟩
    · rcases Nat.lt_or_ge i t with c | c
      · exact Or.inl ⟨h1, Or.inr ⟨h2, c⟩⟩
      · exact Or.inr ⟨by omega, h2⟩
  have hmono : ∀ i j, zpr k t i j → zpr k (t + 1) i j := fun i j hp => ⟨hp.1, hp.2.elim Or.inl (fun h => Or.inr ⟨h.1, by omega⟩)⟩
  constructor
  · intro hc
    refine Or.inr ⟨by omega, fun i j hp => ?_, t, k, ⟨ht, Or.inr ⟨rfl, by omega⟩⟩, rfl, rfl⟩
    rcases hcase i j hp with hp' | ⟨rfl, rfl⟩
    · rcases h with ⟨h1, h2⟩ | ⟨h1, h2, h3⟩
      · exact absurd hp' (h2 i j)
      · have hij : x i < x j := hx i j hp'.1 (by obtain ⟨_, h4⟩ := hp'; rcases h4 with h4 | ⟨h4, -⟩ <;> omega)
        rcases hc with hc | hc
        · omega
        · exact zqle (h2 i j hp') (Int.le_of_lt hc) (by omega) h1 (by omega)
    · exact Int.le_refl _
  · intro hc
    rcases h with ⟨h1, h2⟩ | ⟨h1, h2, i0, j0, h3, h4⟩
    · exact absurd (Or.inl h1) hc
    · refine Or.inr ⟨h1, fun i j hp => ?_, i0, j0, hmono _ _ h3, h4⟩
      rcases hcase i j hp with hp' | ⟨rfl, rfl⟩
      · exact h2 i j hp'
      · exact Int.not_lt.mp (fun q => hc (Or.inr q))
def zwN (e : Nat) : Nat → Nat → Int := fun i j => (j : Int) - i - 2 * e
def zwM (e : Nat) : Nat → Nat → Int := fun i j => -((j : Int) - i + 2 * e)
theorem zmx_fe {x : Nat → Int} {e k : Nat} {p q p' q' : Int} (hk : 1 ≤ k) (hx : ∀ i j, i < j → j ≤ k → x i < x j) (h : zmx (zwN e) x (zpr k k) p q) (h' : zmx (zwM e) x (zpr k k) p' q') : 0 < q ∧ 0 < q' ∧ (zfe x e k ↔ p * q' + p' * q ≤ 0) := by
  have hpr : zpr k k 0 k := ⟨by omega, Or.inr ⟨rfl, by omega⟩⟩
  have hall : ∀ i j, zpr k k i j ↔ (i < j ∧ j ≤ k) := fun i j => ⟨fun hp => ⟨hp.1, by obtain ⟨_, h4⟩ := hp; rcases h4 with h4 | ⟨h4, -⟩ <;> omega⟩, fun hp => ⟨hp.1, by
    rcases Nat.lt_or_ge j k with c | c
    · exact Or.inl c
    · exact Or.inr ⟨by omega, by omega⟩⟩⟩
  rcases h with ⟨-, h2⟩ | ⟨h1, h2, i0, j0, h3, h4, h5⟩
  · exact absurd hpr (h2 0 k)
  · rcases h' with ⟨-, g2⟩ | ⟨g1, g2, i1, j1, g3, g4, g5⟩
    · exact absurd hpr (g2 0 k)
    · refine ⟨h1, g1, ?_, ?_⟩
      · intro hz
        have := hz i0 j0 i1 j1 ((hall _ _).mp h3).1 ((hall _ _).mp h3).2 ((hall _ _).mp g3).1 ((hall _ _).mp g3).2
        unfold zwN at h4
        unfold zwM at g4
        rw [h4, h5, g4, g5]
        grind
      · intro hno i j i' j' n1 n2 m1 m2
        have k1 := h2 i j ((hall _ _).mpr ⟨n1, n2⟩)
        have k2 := g2 i' j' ((hall _ _).mpr ⟨m1, m2⟩)
        unfold zwN at k1
        unfold zwM at k2
        have hd := hx i j n1 n2
        have hd' := hx i' j' m1 m2
        have z1 : ((j : Int) - i - 2 * e) * q' ≤ (-p') * (x j - x i) := by
          refine zqle (c := p) (d := q) k1 (by grind) (by omega) h1 g1
        refine zqle (c := -p') (d := q') z1 (by grind) (by omega) g1 (by omega)
theorem zmx_red {x : Nat → Int} {e k : Nat} {p q : Int} (h : zmx (zwN e) x (zpr (k + 1) 0) p q) (hx : ∀ i j, i < j → j ≤ k → x i < x j) : ((q = 0 ∨ p ≤ 0) → zred x e k 0 1) ∧ (¬ (q = 0 ∨ p ≤ 0) → zred x e k (p / (Nat.gcd p.toNat q.toNat : Nat)) (q / (Nat.gcd p.toNat q.toNat : Nat))) := by
  have hall : ∀ i j, i < j → j ≤ k → zpr (k + 1) 0 i j := fun i j h1 h2 => ⟨h1, Or.inl (by omega)⟩
  constructor
  · intro hc
    refine ⟨0, 1, ⟨by decide, by decide, fun i j h1 h2 => ?_, Or.inl ⟨rfl, rfl⟩⟩, by simp, by simp⟩
    rcases h with ⟨-, h4⟩ | ⟨h3, h4, -⟩
    · exact absurd (hall i j h1 h2) (h4 i j)
    · have k1 := h4 i j (hall i j h1 h2)
      unfold zwN at k1
      have hp : p ≤ 0 := by
        rcases hc with hc | hc <;> omega
      have hd := hx i j h1 h2
      have k2 := Int.mul_le_mul_of_nonneg_right hp (show 0 ≤ x j - x i by omega)
      rcases Int.lt_or_le 0 ((j : Int) - i - 2 * e) with c | c
      · have := Int.mul_lt_mul_of_pos_right c h3
        omega
      · omega
  · intro hc
    rcases h with ⟨h3, -⟩ | ⟨h3, h4, i0, j0, h5, h6, h7⟩
    · exact absurd (Or.inl h3) hc
    · refine ⟨p, q, ⟨h3, by omega, fun i j h1 h2 => h4 i j (hall i j h1 h2), Or.inr ⟨i0, j0, h5.1, ?_, h6, h7⟩⟩, rfl, rfl⟩
      obtain ⟨_, h8⟩ := h5
      rcases h8 with h8 | ⟨h8, h9⟩ <;> omega
