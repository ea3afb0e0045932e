/-! the row with gaps -/
theorem zidx {i : Int32} (h : ¬ i < 0) : ∃ k, k < 2 ^ 31 ∧ i = Int32.ofNat k ∧ i.toInt.toNat = k := by
  have e0 : (0 : Int32).toInt = 0 := rfl
  rw [zi_lt, e0] at h
  have := i.toInt_lt
  exact ⟨i.toInt.toNat, by omega, by rw [zi_eq, zn_int (by omega)]; omega, rfl⟩
def zN : Int32 := -1000000001
def zgu (G : Nat → Int32) (c : Nat) (x : Int32) : Nat → Int32 := fun i => if i = c then x else G i
def zgs (G : Nat → Int32) : Prop := ∀ i j, i < j → j < 64 → G i ≠ zN → G j ≠ zN → G i < G j
def zab (G : Nat → Int32) (x : Int32) (lo hi a1 b : Nat) : Prop := (∀ i, lo ≤ i → i < hi → G i ≠ zN → G i < x → i < a1) ∧ (a1 = 0 ∨ (lo < a1 ∧ a1 ≤ hi ∧ G (a1 - 1) ≠ zN ∧ G (a1 - 1) < x)) ∧ (∀ i, lo ≤ i → i < hi → G i ≠ zN → x < G i → b ≤ i) ∧ (b = 64 ∨ (lo ≤ b ∧ b < hi ∧ G b ≠ zN ∧ x < G b))
def zlfG (G : Nat → Int32) (a1 l : Nat) : Prop := l ≤ a1 ∧ (∀ i, l ≤ i → i < a1 → G i ≠ zN) ∧ (l = 0 ∨ G (l - 1) = zN)
def zrtG (G : Nat → Int32) (b r : Nat) : Prop := b ≤ r ∧ r ≤ 64 ∧ (∀ i, b ≤ i → i < r → G i ≠ zN) ∧ (r = 64 ∨ G r = zN)
def zshl (G : Nat → Int32) (x : Int32) (a1 l : Nat) : Nat → Int32 := fun i => if l ≤ i + 1 ∧ i + 1 < a1 then G (i + 1) else if i + 1 = a1 then x else G i
def zshr (G : Nat → Int32) (x : Int32) (b r : Nat) : Nat → Int32 := fun i => if b < i ∧ i ≤ r then G (i - 1) else if i = b then x else G i
def zMG (f : Nat → Int32) (G : Nat → Int32) : Prop := ∀ c, c < 64 → (G c = zN → f (1604 + c) = 0) ∧ (G c ≠ zN → f (1604 + c) = 1 ∧ f (1540 + c) = G c)
def zCG (I : zI) (o : Nat) (G : Nat → Int32) : Prop := ∀ c, c < 64 → I (11 + o) c = G c
theorem zab_uniq {G : Nat → Int32} {x : Int32} {a1 b a1' b' : Nat} (h : zab G x 0 64 a1 b) (h' : zab G x 0 64 a1' b') : a1 = a1' ∧ b = b' := by
  obtain ⟨p1, p2, p3, p4⟩ := h
  obtain ⟨q1, q2, q3, q4⟩ := h'
  constructor
  · rcases p2 with p2 | ⟨_, p2, p2', p2''⟩
    · rcases q2 with q2 | ⟨_, q2, q2', q2''⟩
      · omega
      · have := p1 (a1' - 1) (by omega) (by omega) q2' q2''
        omega
    · have := q1 (a1 - 1) (by omega) (by omega) p2' p2''
      rcases q2 with q2 | ⟨_, q2, q2', q2''⟩
      · omega
      · have := p1 (a1' - 1) (by omega) (by omega) q2' q2''
        omega
  · rcases p4 with p4 | ⟨_, p4, p4', p4''⟩
    · rcases q4 with q4 | ⟨_, q4, q4', q4''⟩
      · omega
      · have := p3 b' (by omega) (by omega) q4' q4''
        omega
    · have := q3 b (by omega) (by omega) p4' p4''
      rcases q4 with q4 | ⟨_, q4, q4', q4''⟩
      · omega
      · have := p3 b' (by omega) (by omega) q4' q4''
        omega
theorem zlfG_uniq {G : Nat → Int32} {a l l' : Nat} (h : zlfG G a l) (h' : zlfG G a l') : l = l' := by
  obtain ⟨p1, p2, p3⟩ := h
  obtain ⟨q1, q2, q3⟩ := h'
  rcases Nat.lt_trichotomy l l' with c | c | c
  · rcases q3 with q3 | q3
    · omega
    · exact absurd q3 (p2 (l' - 1) (by omega) (by omega))
  · exact c
  · rcases p3 with p3 | p3
    · omega
    · exact absurd p3 (q2 (l - 1) (by omega) (by omega))
theorem zrtG_uniq {G : Nat → Int32} {a l l' : Nat} (h : zrtG G a l) (h' : zrtG G a l') : l = l' := by
  obtain ⟨p1, p0, p2, p3⟩ := h
  obtain ⟨q1, q0, q2, q3⟩ := h'
  rcases Nat.lt_trichotomy l l' with c | c | c
  · rcases p3 with p3 | p3
    · omega
    · exact absurd p3 (q2 l (by omega) (by omega))
  · exact c
  · rcases q3 with q3 | q3
    · omega
    · exact absurd q3 (p2 l' (by omega) (by omega))
section ZGP
variable {G : Nat → Int32} {x : Int32} {a1 b l r : Nat}
theorem zab_le (hs : zgs G) (h : zab G x 0 64 a1 b) : a1 ≤ b := by
  obtain ⟨p1, p2, p3, p4⟩ := h
  rcases p2 with p2 | ⟨_, p2, p2', p2''⟩
  · omega
  · rcases p4 with p4 | ⟨_, p4, p4', p4''⟩
    · omega
    · rcases Nat.lt_or_ge b a1 with c | c
      · rcases Nat.lt_or_ge b (a1 - 1) with c2 | c2
        · have := hs b (a1 - 1) c2 (by omega) p4' p2'
          rw [zi_lt] at *; omega
        · have e : b = a1 - 1 := by omega
          rw [e, zi_lt] at p4''
          rw [zi_lt] at p2''
          omega
      · exact c
theorem zab_lo (hs : zgs G) (h : zab G x 0 64 a1 b) {i : Nat} (hi : i < a1) (hf : G i ≠ zN) : G i < x := by
  obtain ⟨p1, p2, p3, p4⟩ := h
  rcases p2 with p2 | ⟨_, p2, p2', p2''⟩
  · omega
  · rcases Nat.lt_or_ge i (a1 - 1) with c | c
    · have := hs i (a1 - 1) c (by omega) hf p2'
      rw [zi_lt] at *; omega
    · have e : i = a1 - 1 := by omega
      rw [e]; exact p2''
theorem zab_hi (hs : zgs G) (h : zab G x 0 64 a1 b) {i : Nat} (hi : b ≤ i) (hi' : i < 64) (hf : G i ≠ zN) : x < G i := by
  obtain ⟨p1, p2, p3, p4⟩ := h
  rcases p4 with p4 | ⟨_, p4, p4', p4''⟩
  · omega
  · rcases Nat.lt_or_ge b i with c | c
    · have := hs b i c (by omega) p4' hf
      rw [zi_lt] at *; omega
    · have e : i = b := by omega
      rw [e]; exact p4''
theorem zab_mid (h : zab G x 0 64 a1 b) (hx : ∀ i, i < 64 → G i ≠ x) {i : Nat} (hi : a1 ≤ i) (hi' : i < b) (hb : i < 64) : G i = zN := by
  obtain ⟨p1, p2, p3, p4⟩ := h
  rcases Classical.em (G i = zN) with c | c
  · exact c
  · rcases Classical.em (G i < x) with c1 | c1
    · have := p1 i (by omega) hb c c1; omega
    · have c2 : x < G i := by
        have := hx i hb
        rw [zi_lt] at *; rw [ne_eq, zi_eq] at this; omega
      have := p3 i (by omega) hb c c2; omega
theorem zgs_mid (hs : zgs G) (h : zab G x 0 64 a1 b) (hx : ∀ i, i < 64 → G i ≠ x) {m : Nat} (h1 : a1 ≤ m) (h2 : m < b) : zgs (zgu G m x) := by
  intro i j hij hj hi1 hj1
  unfold zgu at *
  by_cases c1 : i = m
  · rw [if_pos c1]
    rw [if_neg (by omega)] at hj1 ⊢
    refine zab_hi hs h ?_ hj hj1
    rcases Nat.lt_or_ge j b with c | c
    · exact absurd (zab_mid h hx (i := j) (by omega) c hj) hj1
    · exact c
  · rw [if_neg c1] at hi1 ⊢
    by_cases c2 : j = m
    · rw [if_pos c2]
      refine zab_lo hs h ?_ hi1
      rcases Nat.lt_or_ge i a1 with c | c
      · exact c
      · exact absurd (zab_mid h hx (i := i) c (by omega) (by omega)) hi1
    · rw [if_neg c2] at hj1 ⊢
      exact hs i j hij hj hi1 hj1
theorem zgs_shl (hs : zgs G) (h : zab G x 0 64 a1 a1) (hl : zlfG G a1 l) (hl0 : 0 < l) (hl1 : l < a1) : zgs (zshl G x a1 l) := by
  intro i j hij hj hi1 hj1
  have key : ∀ k, k < 64 → zshl G x a1 l k ≠ zN → (k + 1 < l ∧ zshl G x a1 l k = G k ∧ G k ≠ zN) ∨ (l ≤ k + 1 ∧ k + 1 < a1 ∧ zshl G x a1 l k = G (k + 1) ∧ G (k + 1) ≠ zN) ∨ (k + 1 = a1 ∧ zshl G x a1 l k = x) ∨ (a1 ≤ k ∧ zshl G x a1 l k = G k ∧ G k ≠ zN) := by
    intro k hk hne
    unfold zshl at *
    by_cases c1 : l ≤ k + 1 ∧ k + 1 < a1
    · rw [if_pos c1] at *
      exact Or.inr (Or.inl ⟨c1.1, c1.2, rfl, hne⟩)
    · rw [if_neg c1] at *
      by_cases c2 : k + 1 = a1
      · rw [if_pos c2] at *
        exact Or.inr (Or.inr (Or.inl ⟨c2, rfl⟩))
      · rw [if_neg c2] at *
        rcases Nat.lt_or_ge (k + 1) l with c | c
        · exact Or.inl ⟨c, rfl, hne⟩
        · exact Or.inr (Or.inr (Or.inr ⟨by omega, rfl, hne⟩))
  have lo : ∀ k, k < a1 → G k ≠ zN → G k < x := fun k hk hf => zab_lo hs h hk hf
  have hi : ∀ k, a1 ≤ k → k < 64 → G k ≠ zN → x < G k := fun k hk hk' hf => zab_hi hs h hk hk' hf
  have ha : a1 ≤ 64 := by
    rcases h.2.1 with q | q
    · omega
    · exact q.2.1
  rcases key i (by omega) hi1 with ⟨i1, i2, i3⟩ | ⟨i0, i1, i2, i3⟩ | ⟨i1, i2⟩ | ⟨i1, i2, i3⟩ <;> rcases key j hj hj1 with ⟨j1, j2, j3⟩ | ⟨j0, j1, j2, j3⟩ | ⟨j1, j2⟩ | ⟨j1, j2, j3⟩ <;> rw [i2, j2] <;> first | omega | exact hs _ _ (by omega) (by omega) i3 j3 | exact lo _ (by omega) i3 | exact hi _ (by omega) (by omega) j3
theorem zgs_shr (hs : zgs G) (h : zab G x 0 64 b b) (hr : zrtG G b r) (hr0 : r < 64) : zgs (zshr G x b r) := by
  intro i j hij hj hi1 hj1
  have key : ∀ k, k < 64 → zshr G x b r k ≠ zN → (k < b ∧ zshr G x b r k = G k ∧ G k ≠ zN) ∨ (b < k ∧ k ≤ r ∧ zshr G x b r k = G (k - 1) ∧ G (k - 1) ≠ zN) ∨ (k = b ∧ zshr G x b r k = x) ∨ (r < k ∧ zshr G x b r k = G k ∧ G k ≠ zN) := by
    intro k hk hne
    unfold zshr at *
    by_cases c1 : b < k ∧ k ≤ r
    · rw [if_pos c1] at *
      exact Or.inr (Or.inl ⟨c1.1, c1.2, rfl, hne⟩)
    · rw [if_neg c1] at *
      by_cases c2 : k = b
      · rw [if_pos c2] at *
        exact Or.inr (Or.inr (Or.inl ⟨c2, rfl⟩))
      · rw [if_neg c2] at *
        rcases Nat.lt_or_ge k b with c | c
        · exact Or.inl ⟨c, rfl, hne⟩
        · exact Or.inr (Or.inr (Or.inr ⟨by omega, rfl, hne⟩))
  have hb := hr.1
  have lo : ∀ k, k < b → G k ≠ zN → G k < x := fun k hk hf => zab_lo hs h hk hf
  have hi : ∀ k, b ≤ k → k < 64 → G k ≠ zN → x < G k := fun k hk hk' hf => zab_hi hs h hk hk' hf
  rcases key i (by omega) hi1 with ⟨i1, i2, i3⟩ | ⟨i0, i1, i2, i3⟩ | ⟨i1, i2⟩ | ⟨i1, i2, i3⟩ <;> rcases key j hj hj1 with ⟨j1, j2, j3⟩ | ⟨j0, j1, j2, j3⟩ | ⟨j1, j2⟩ | ⟨j1, j2, j3⟩ <;> rw [i2, j2] <;> first | omega | exact hs _ _ (by omega) (by omega) i3 j3 | exact lo _ (by omega) i3 | exact hi _ (by omega) (by omega) j3
end ZGP
