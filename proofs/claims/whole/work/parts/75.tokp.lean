/-! tokens of a tape, as both read them -/
def zbl (c : Nat) : Bool := c == 32 || c == 10
def zle (c : Nat) : Bool := (decide (97 ≤ c) && decide (c ≤ 122)) || (decide (65 ≤ c) && decide (c ≤ 90))
def zdg (c : Nat) : Bool := decide (48 ≤ c) && decide (c ≤ 57)
theorem zbl_iff {c : Nat} : zbl c = true ↔ c = 32 ∨ c = 10 := by simp [zbl]
theorem zle_iff {c : Nat} : zle c = true ↔ (97 ≤ c ∧ c ≤ 122) ∨ (65 ≤ c ∧ c ≤ 90) := by simp [zle]
theorem zdg_iff {c : Nat} : zdg c = true ↔ 48 ≤ c ∧ c ≤ 57 := by simp [zdg]
def zrn (p : Nat → Bool) (g : Nat → Nat) (n : Nat) : Nat → Nat → Nat
  | 0, a => a
  | m + 1, a => if a < n ∧ p (g a) = true then zrn p g n m (a + 1) else a
def zre (p : Nat → Bool) (g : Nat → Nat) (n a : Nat) : Nat := zrn p g n (n - a) a
section ZTP
variable {p : Nat → Bool} {g : Nat → Nat} {n : Nat}
theorem zrn_bd : ∀ m a, a + m ≤ n → a ≤ zrn p g n m a ∧ zrn p g n m a ≤ a + m
  | 0, a, _ => ⟨Nat.le_refl _, Nat.le_refl _⟩
  | m + 1, a, h => by
    have := zrn_bd m (a + 1) (by omega)
    unfold zrn
    split <;> omega
theorem zre_bd {a : Nat} (h : a ≤ n) : a ≤ zre p g n a ∧ zre p g n a ≤ n := by
  have := zrn_bd (p := p) (g := g) (n := n) (n - a) a (by omega)
  unfold zre
  omega
theorem zre_y {a : Nat} (h : a < n) (hp : p (g a) = true) : zre p g n a = zre p g n (a + 1) := by
  unfold zre
  rw [show n - a = n - (a + 1) + 1 by omega, zrn, if_pos ⟨h, hp⟩]
theorem zre_n {a : Nat} (h : ¬ (a < n ∧ p (g a) = true)) : zre p g n a = a := by
  unfold zre
  cases n - a with
  | zero => rfl
  | succ m => rw [zrn, if_neg h]
theorem zrn_all : ∀ m a, a + m ≤ n → ∀ i, a ≤ i → i < zrn p g n m a → p (g i) = true
  | 0, a, _ => fun i h1 h2 => by unfold zrn at h2; omega
  | m + 1, a, h => fun i h1 h2 => by
    have ih := zrn_all m (a + 1) (by omega) i
    unfold zrn at h2
    split at h2
    · rename_i c
      rcases Nat.lt_or_ge a i with w | w
      · exact ih w h2
      · have : i = a := by omega
        rw [this]; exact c.2
    · omega
theorem zre_all {a : Nat} (h : a ≤ n) : ∀ i, a ≤ i → i < zre p g n a → p (g i) = true := zrn_all _ _ (by omega)
/-- the place at which a run ends is no part of it -/
theorem zrn_end : ∀ m a, a + m = n → ¬ (zrn p g n m a < n ∧ p (g (zrn p g n m a)) = true)
  | 0, a, h => by
    unfold zrn
    omega
  | m + 1, a, h => by
    have ih := zrn_end m (a + 1) (by omega)
    unfold zrn
    split
    · exact ih
    · assumption
theorem zre_end {a : Nat} (h : a ≤ n) : ¬ (zre p g n a < n ∧ p (g (zre p g n a)) = true) := zrn_end _ _ (by omega)
def zwd : List (List Nat) := [[107, 101, 121], [114, 117, 110], [100, 114, 111, 112], [115, 108, 97, 99, 107], [117, 112, 112, 101, 114], [114, 111, 111, 109]]
abbrev zis (g : Nat → Nat) (a z : Nat) (w : List Nat) : Prop := z - a = w.length ∧ ∀ i, i < w.length → g (a + i) = w.getD i 0
def zwl (g : Nat → Nat) (a z : Nat) : Nat → Nat
  | 0 => 1
  | w + 1 => if zis g a z (zwd.getD w []) then 4 + w else zwl g a z w
theorem zwl_rng (a z : Nat) : ∀ w, zwl g a z w = 1 ∨ (4 ≤ zwl g a z w ∧ zwl g a z w < 4 + w)
  | 0 => Or.inl rfl
  | w + 1 => by
    have := zwl_rng a z w
    unfold zwl
    split
    · exact Or.inr ⟨by omega, by omega⟩
    · rcases this with q | q
      · exact Or.inl q
      · exact Or.inr ⟨q.1, by omega⟩
/-- no two words stand at one place -/
theorem zis_one {a z : Nat} {w w' : Nat} (hw : w < 6) (hw' : w' < 6) (h : zis g a z (zwd.getD w [])) (h' : zis g a z (zwd.getD w' [])) : w = w' := by
  have l1 := h.1
  have l2 := h'.1
  have f1 := h.2 0
  have f2 := h'.2 0
  have hw1 : w = 0 ∨ w = 1 ∨ w = 2 ∨ w = 3 ∨ w = 4 ∨ w = 5 := by omega
  have hw2 : w' = 0 ∨ w' = 1 ∨ w' = 2 ∨ w' = 3 ∨ w' = 4 ∨ w' = 5 := by omega
  rcases hw1 with rfl | rfl | rfl | rfl | rfl | rfl <;> rcases hw2 with rfl | rfl | rfl | rfl | rfl | rfl <;> first | rfl | exact absurd (l1.symm.trans l2) (by decide) | exact absurd ((f1 (by decide)).symm.trans (f2 (by decide))) (by decide)
theorem zwl_at {a z w : Nat} (hw : w < 6) (h : zis g a z (zwd.getD w [])) : zwl g a z 6 = 4 + w := by
  have no : ∀ k, k < 6 → k ≠ w → ¬ zis g a z (zwd.getD k []) := fun k hk hn q => hn (zis_one hk hw q h)
  have up : ∀ d, w + 1 + d ≤ 6 → zwl g a z (w + 1 + d) = 4 + w := by
    intro d
    induction d with
    | zero =>
      intro _
      show zwl g a z (w + 1) = 4 + w
      rw [zwl, if_pos h]
    | succ d ih =>
      intro hd
      show zwl g a z (w + 1 + d + 1) = 4 + w
      rw [zwl, if_neg (no _ (by omega) (by omega))]
      exact ih (by omega)
  have := up (5 - w) (by omega)
  rw [show w + 1 + (5 - w) = 6 by omega] at this
  exact this
theorem zwl_no {a z : Nat} : ∀ w, (∀ k, k < w → ¬ zis g a z (zwd.getD k [])) → zwl g a z w = 1
  | 0, _ => rfl
  | w + 1, h => by
    rw [zwl, if_neg (h w (by omega))]
    exact zwl_no w (fun k hk => h k (by omega))
def zdv (g : Nat → Nat) (s : Nat) : Nat → Nat
  | 0 => 0
  | m + 1 => 10 * zdv g s m + (g (s + m) - 48)
theorem zdv_lt {s : Nat} : ∀ m, (∀ i, i < m → zdg (g (s + i)) = true) → zdv g s m < 10 ^ m
  | 0, _ => by show 0 < 1; decide
  | m + 1, h => by
    have ih := zdv_lt m (fun i hi => h i (by omega))
    have := zdg_iff.mp (h m (by omega))
    unfold zdv
    rw [Nat.pow_succ]
    omega
def zst0 (g : Nat → Nat) (a : Nat) : Nat := if g a = 45 then a + 1 else a
def zkd (g : Nat → Nat) (n a : Nat) : Nat := if n ≤ a then 0 else if zle (g a) = true then zwl g a (zre zle g n a) 6 else if zdg (g a) = true ∨ g a = 45 then (if 1 ≤ zre zdg g n (zst0 g a) - zst0 g a ∧ zre zdg g n (zst0 g a) - zst0 g a ≤ 9 then 2 else 1) else if g a = 59 then 3 else 1
def zbh (g : Nat → Nat) (n a : Nat) : Nat := if n ≤ a then a else if zle (g a) = true then zre zle g n a else if zdg (g a) = true ∨ g a = 45 then zre zdg g n (zst0 g a) else a + 1
def zvl (g : Nat → Nat) (n a : Nat) : Int32 := if g a = 45 then - Int32.ofNat (zdv g (zst0 g a) (min 9 (zre zdg g n (zst0 g a) - zst0 g a))) else Int32.ofNat (zdv g (zst0 g a) (min 9 (zre zdg g n (zst0 g a) - zst0 g a)))
theorem zst0_bd {a : Nat} (h : a < n) : a ≤ zst0 g a ∧ zst0 g a ≤ n := by
  unfold zst0
  split <;> omega
theorem zbh_bd {a : Nat} (h : a ≤ n) : a ≤ zbh g n a ∧ zbh g n a ≤ n ∧ (a < n → a < zbh g n a) := by
  unfold zbh
  by_cases c : n ≤ a
  · rw [if_pos c]; omega
  · rw [if_neg c]
    by_cases c1 : zle (g a) = true
    · rw [if_pos c1, zre_y (by omega) c1]
      have := zre_bd (p := zle) (g := g) (n := n) (a := a + 1) (by omega)
      omega
    · rw [if_neg c1]
      by_cases c2 : zdg (g a) = true ∨ g a = 45
      · rw [if_pos c2]
        unfold zst0
        by_cases c3 : g a = 45
        · rw [if_pos c3]
          have := zre_bd (p := zdg) (g := g) (n := n) (a := a + 1) (by omega)
          omega
        · rw [if_neg c3, zre_y (by omega) (c2.resolve_right c3)]
          have := zre_bd (p := zdg) (g := g) (n := n) (a := a + 1) (by omega)
          omega
      · rw [if_neg c2]; omega
theorem zkd_rng (a : Nat) : zkd g n a < 10 := by
  unfold zkd
  have := zwl_rng (g := g) a (zre zle g n a) 6
  repeat' split
  all_goals omega
theorem zkd_0 {a : Nat} : zkd g n a = 0 ↔ n ≤ a := by
  unfold zkd
  have := zwl_rng (g := g) a (zre zle g n a) 6
  repeat' split
  all_goals omega
/-- where token k stands -/
def zpt (g : Nat → Nat) (n : Nat) : Nat → Nat
  | 0 => zre zbl g n 0
  | k + 1 => zre zbl g n (zbh g n (zpt g n k))
theorem zpt_le : ∀ k, zpt g n k ≤ n
  | 0 => (zre_bd (Nat.zero_le _)).2
  | k + 1 => (zre_bd (zbh_bd (zpt_le k)).2.1).2
theorem zpt_ge : ∀ k, zpt g n k < n → k ≤ zpt g n k
  | 0, _ => Nat.zero_le _
  | k + 1, h => by
    have h0 := zpt_le (g := g) (n := n) k
    have hb := zbh_bd (g := g) h0
    have h1 := zre_bd (p := zbl) (g := g) hb.2.1
    have h2 : zpt g n (k + 1) = zre zbl g n (zbh g n (zpt g n k)) := rfl
    have ih := zpt_ge k (by omega)
    have := hb.2.2 (by omega)
    omega
theorem zpt_wm (k : Nat) : zpt g n k ≤ zpt g n (k + 1) := by
  have hb := zbh_bd (g := g) (zpt_le (g := g) (n := n) k)
  have h1 := zre_bd (p := zbl) (g := g) hb.2.1
  have h2 : zpt g n (k + 1) = zre zbl g n (zbh g n (zpt g n k)) := rfl
  omega
theorem zpt_nb (k : Nat) (h : zpt g n k < n) : ¬ zbl (g (zpt g n k)) = true := by
  cases k with
  | zero => exact fun q => zre_end (p := zbl) (g := g) (n := n) (Nat.zero_le _) ⟨h, q⟩
  | succ k => exact fun q => zre_end (p := zbl) (g := g) (n := n) (zbh_bd (zpt_le k)).2.1 ⟨h, q⟩
abbrev zk (g : Nat → Nat) (n k : Nat) : Nat := zkd g n (zpt g n k)
theorem zvl_rng (a : Nat) (h : a < n) : -999999999 ≤ (zvl g n a).toInt ∧ (zvl g n a).toInt ≤ 999999999 := by
  have hs := zst0_bd (g := g) h
  have h1 := zre_bd (p := zdg) (g := g) hs.2
  have hl := zdv_lt (g := g) (s := zst0 g a) (min 9 (zre zdg g n (zst0 g a) - zst0 g a)) (fun i hi => zre_all hs.2 _ (by omega) (by omega))
  have h9 : 10 ^ min 9 (zre zdg g n (zst0 g a) - zst0 g a) ≤ 10 ^ 9 := Nat.pow_le_pow_right (by decide) (by omega)
  have h9' : (10 : Nat) ^ 9 = 1000000000 := by decide
  unfold zvl
  have e1 := zn_int (m := zdv g (zst0 g a) (min 9 (zre zdg g n (zst0 g a) - zst0 g a))) (by omega)
  split
  · rw [zi_neg (by omega), e1]; omega
  · rw [e1]; omega
end ZTP
