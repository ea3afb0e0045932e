/-! the filters -/
def zhv (x : Int) (h m : Nat) : Nat := ((x + 1000000000) * (40503 + 2 * h) + 977 * h).toNat % 2147483647 % m
def znear (ks : Nat → Int32) (n : Nat) (wd : Int32) (i : Nat) : Prop := i + 1 < n ∧ ¬ wd < ks (i + 1) - ks i
def zspan (ks : Nat → Int32) (n : Nat) (wd : Int32) (i : Nat) : Prop := (1 ≤ i ∧ znear ks n wd (i - 1)) ∨ znear ks n wd i
theorem zhv_lt {x : Int} {h m : Nat} (hm : 0 < m) : zhv x h m < m := Nat.mod_lt _ hm
theorem zmod2 {N m : Int64} {a d : Nat} (hN : N.toInt = a) (hm : m.toInt = d) (hd : 0 < d) (hd2 : d ≤ 512) : Int64.toInt32 ((N - N / 2147483647 * 2147483647) - (N - N / 2147483647 * 2147483647) / m * m) = Int32.ofNat (a % 2147483647 % d) := by
  have hp : (2147483647 : Int64).toInt = (2147483647 : Nat) := rfl
  have h1 := zrem hN hp (by decide)
  have h2 := zrem h1 hm hd
  have hlt := Nat.mod_lt (a % 2147483647) hd
  rw [zi_eq, zof64 h2 (by omega) (by omega), zn_int (by omega)]
section ZSV
variable (X : zv_X) {b : Bool} {J : zJ}
theorem zhN {x : Int32} {h : Nat} (hx : -999999999 ≤ x.toInt ∧ x.toInt ≤ 999999999) (hh : h < 4) : ((Int32.toInt64 x + 1000000000) * Int32.toInt64 (40503 + 2 * Int32.ofNat h) + Int32.toInt64 (977 * Int32.ofNat h)).toInt = (((x.toInt + 1000000000) * (40503 + 2 * h) + 977 * h).toNat : Nat) ∧ ((Int32.toInt64 x + 1000000000) * (40503 + 2 * Int32.toInt64 (Int32.ofNat h)) + 977 * Int32.toInt64 (Int32.ofNat h)).toInt = (((x.toInt + 1000000000) * (40503 + 2 * h) + 977 * h).toNat : Nat) := by
  have ex : (Int32.toInt64 x).toInt = x.toInt := Int32.toInt_toInt64 x
  have eB : (1000000000 : Int64).toInt = 1000000000 := rfl
  have es : (Int32.toInt64 x + 1000000000).toInt = x.toInt + 1000000000 := by
    rw [zl_add, ex, eB]
    · rw [ex, eB]; omega
    · rw [ex, eB]; omega
  have ea : (Int32.toInt64 (40503 + 2 * Int32.ofNat h)).toInt = 40503 + 2 * h ∧ (Int32.toInt64 (977 * Int32.ofNat h)).toInt = 977 * h ∧ (40503 + 2 * Int32.toInt64 (Int32.ofNat h)).toInt = 40503 + 2 * h ∧ (977 * Int32.toInt64 (Int32.ofNat h)).toInt = 977 * h := by
    rcases (by omega : h = 0 ∨ h = 1 ∨ h = 2 ∨ h = 3) with rfl | rfl | rfl | rfl <;> exact ⟨rfl, rfl, rfl, rfl⟩
  obtain ⟨e1, e2, e3, e4⟩ := ea
  have wb := zabsmul (a := x.toInt + 1000000000) (c := 40503 + 2 * (h : Int)) (A := 2000000000) (C := 50000) (by omega) (by omega) (by omega) (by omega)
  have wp := Int.mul_nonneg (show 0 ≤ x.toInt + 1000000000 by omega) (show 0 ≤ 40503 + 2 * (h : Int) by omega)
  have em1 : ((Int32.toInt64 x + 1000000000) * Int32.toInt64 (40503 + 2 * Int32.ofNat h)).toInt = (x.toInt + 1000000000) * (40503 + 2 * h) := by
    rw [zl_mul, es, e1]
    · rw [es, e1]; exact Int.le_trans (by decide) wb.1
    · rw [es, e1]; exact Int.lt_of_le_of_lt wb.2 (by decide)
  have em2 : ((Int32.toInt64 x + 1000000000) * (40503 + 2 * Int32.toInt64 (Int32.ofNat h))).toInt = (x.toInt + 1000000000) * (40503 + 2 * h) := by
    rw [zl_mul, es, e3]
    · rw [es, e3]; exact Int.le_trans (by decide) wb.1
    · rw [es, e3]; exact Int.lt_of_le_of_lt wb.2 (by decide)
  have hb : (x.toInt + 1000000000) * (40503 + 2 * (h : Int)) ≤ 100000000000000 := Int.le_trans wb.2 (by decide)
  generalize (x.toInt + 1000000000) * (40503 + 2 * (h : Int)) = A at em1 em2 wp hb ⊢
  clear wb e1 e3 es ex eB
  constructor
  · rw [zl_add, em1, e2]
    · omega
    · rw [em1, e2]; omega
    · rw [em1, e2]; omega
  · rw [zl_add, em2, e4]
    · omega
    · rw [em2, e4]; omega
    · rw [em2, e4]; omega
theorem c_hash {I : zI} {x : Int32} {h m : Nat} (hx : -999999999 ≤ x.toInt ∧ x.toInt ≤ 999999999) (hh : h < 4) (hm : 0 < m ∧ m ≤ 512) (h1 : I 178 1 = Int32.ofNat m) : zg_Sieve_hash_0 X 178 x (Int32.ofNat h) (zM b I J) = some (some (.int (Int32.ofNat (zhv x.toInt h m))), zM b I J) := by
  have em : (Int32.toInt64 (Int32.ofNat m)).toInt = m := by rw [Int32.toInt_toInt64, zn_int (by omega)]
  have hm0 : ¬ Int32.toInt64 (Int32.ofNat m) = 0 := fun q => by
    have := congrArg Int64.toInt q
    have e00 : (0 : Int64).toInt = 0 := rfl
    omega
  rw [zg_Sieve_hash_0_e, if_neg (by decide), zo178, zM_I, h1, if_neg hm0, zmod2 (zhN hx hh).1 em hm.1 hm.2]
  rfl
theorem m_hash {I : zI} {x : Int32} {h m : Nat} (hx : -999999999 ≤ x.toInt ∧ x.toInt ≤ 999999999) (hh : h < 4) (hm : 0 < m ∧ m ≤ 512) (h1 : I 182 5 = Int32.ofNat m) : zg_M_hash_0 X 181 x (Int32.ofNat h) (zM b I J) = some (some (.int (Int32.ofNat (zhv x.toInt h m))), zM b I J) := by
  have em : (Int32.toInt64 (Int32.ofNat m)).toInt = m := by rw [Int32.toInt_toInt64, zn_int (by omega)]
  have hm0 : ¬ Int32.toInt64 (Int32.ofNat m) = 0 := fun q => by
    have := congrArg Int64.toInt q
    have e00 : (0 : Int64).toInt = 0 := rfl
    omega
  rw [zg_M_hash_0_e, if_neg (by decide), zo181, zM_P, zp181_0, zrf, zw_5, zM_I, h1, if_neg hm0, zmod2 (zhN hx hh).2 em hm.1 hm.2]
  rfl
theorem c_mark {x : Int32} {m hs : Nat} (hx : -999999999 ≤ x.toInt ∧ x.toInt ≤ 999999999) (hh : hs ≤ 4) (hm : 0 < m ∧ m ≤ 512) : ∀ (r h : Nat) (I : zI), h + r = hs → I 178 1 = Int32.ofNat m → I 178 2 = Int32.ofNat hs → ∃ I', zg_Sieve_mark_2 X 178 x (Int32.ofNat h) (zM b I J) = some (none, zM b I' J) ∧ (∀ j, I' 179 j = 0 ↔ (I 179 j = 0 ∧ ∀ k, h ≤ k → k < hs → zhv x.toInt k m ≠ j)) ∧ ∀ a, a ≠ 179 → I' a = I a := by
  intro r
  induction r with
  | zero =>
    intro h I hr h1 h2
    refine ⟨I, ?_, fun j => ⟨fun q => ⟨q, fun k k1 k2 => by omega⟩, fun q => q.1⟩, fun a _ => rfl⟩
    rw [zg_Sieve_mark_2_e, zo178, zM_I, h2, if_pos ((zn_le (by omega) (by omega)).mpr (by omega)), zg_Sieve_mark_28_e]
  | succ r ih =>
    intro h I hr h1 h2
    have hlt := zhv_lt (x := x.toInt) (h := h) hm.1
    obtain ⟨I', f1, f2, f3⟩ := ih (h + 1) (zst I 179 (zhv x.toInt h m) 1) (by omega) (by rw [zst_ne (by decide)]; exact h1) (by rw [zst_ne (by decide)]; exact h2)
    refine ⟨I', ?_, fun j => ?_, fun a ha => by rw [f3 a ha, zst_ne ha]⟩
    · rw [← f1, zg_Sieve_mark_2_e, zo178, zM_I, h2, if_neg (fun q => absurd ((zn_le (by omega) (by omega)).mp q) (by omega)), zo178, zM_P, zp178_0, zrf, zo178, c_hash X hx (by omega) hm h1, zci, zx179 (by omega), zM_wI, zn_add1]
      rfl
    · rw [f2, zst_at]
      by_cases c : j = zhv x.toInt h m
      · rw [if_pos ⟨rfl, c⟩]
        constructor
        · rintro ⟨q, -⟩; exact absurd q (by decide)
        · rintro ⟨-, q⟩; exact absurd c.symm (q h (Nat.le_refl _) (by omega))
      · rw [if_neg (fun q => c q.2)]
        constructor
        · rintro ⟨q1, q2⟩
          refine ⟨q1, fun k k1 k2 => ?_⟩
          rcases Nat.lt_or_ge h k with w | w
          · exact q2 k w k2
          · have : k = h := by omega
            rw [this]; exact fun q => c q.symm
        · rintro ⟨q1, q2⟩
          exact ⟨q1, fun k k1 k2 => q2 k (by omega) k2⟩
theorem m_mark {x : Int32} {m hs : Nat} {l1 l2 l3 : Int32} (hx : -999999999 ≤ x.toInt ∧ x.toInt ≤ 999999999) (hh : hs ≤ 4) (hm : 0 < m ∧ m ≤ 512) {i : Nat} (hi : i < 302) (hl3 : l3 = Int32.ofNat i) : ∀ (r h : Nat) (I : zI), h + r = hs → I 182 5 = Int32.ofNat m → I 182 6 = Int32.ofNat hs → I 185 i = x → ∃ I', (∀ l1 l2, zg_M_setsBits_144 X 181 l1 l2 l3 (Int32.ofNat h) (zM b I J) = zg_M_setsBits_180 X 181 l1 l2 l3 (zM b I' J)) ∧ (∀ j, I' 256 j = 0 ↔ (I 256 j = 0 ∧ ∀ k, h ≤ k → k < hs → zhv x.toInt k m ≠ j)) ∧ ∀ a, a ≠ 256 → I' a = I a := by
  subst hl3
  intro r
  induction r with
  | zero =>
    intro h I hr h1 h2 h3
    refine ⟨I, fun l1 l2 => ?_, fun j => ⟨fun q => ⟨q, fun k k1 k2 => by omega⟩, fun q => q.1⟩, fun a _ => rfl⟩
    rw [zg_M_setsBits_144_e, zo181, zM_P, zp181_0, zrf, zw_6, zM_I, h2, if_pos ((zn_le (by omega) (by omega)).mpr (by omega))]
  | succ r ih =>
    intro h I hr h1 h2 h3
    have hlt := zhv_lt (x := x.toInt) (h := h) hm.1
    obtain ⟨I', f1, f2, f3⟩ := ih (h + 1) (zst I 256 (zhv x.toInt h m) 1) (by omega) (by rw [zst_ne (by decide)]; exact h1) (by rw [zst_ne (by decide)]; exact h2) (by rw [zst_ne (by decide)]; exact h3)
    refine ⟨I', fun l1 l2 => ?_, fun j => ?_, fun a ha => by rw [f3 a ha, zst_ne ha]⟩
    · rw [← f1, zg_M_setsBits_144_e, zo181, zM_P, zp181_0, zrf, zw_6, zM_I, h2, if_neg (fun q => absurd ((zn_le (by omega) (by omega)).mp q) (by omega)), zo181, zp181_31, zrf, zo181, zp181_4, zrf, zx185 (by omega), h3, zo181, m_hash X hx (by omega) hm h1, zci, zx256 (by omega), zM_wI, zn_add1]
      rfl
    · rw [f2, zst_at]
      by_cases c : j = zhv x.toInt h m
      · rw [if_pos ⟨rfl, c⟩]
        constructor
        · rintro ⟨q, -⟩; exact absurd q (by decide)
        · rintro ⟨-, q⟩; exact absurd c.symm (q h (Nat.le_refl _) (by omega))
      · rw [if_neg (fun q => c q.2)]
        constructor
        · rintro ⟨q1, q2⟩
          refine ⟨q1, fun k k1 k2 => ?_⟩
          rcases Nat.lt_or_ge h k with w | w
          · exact q2 k w k2
          · have : k = h := by omega
            rw [this]; exact fun q => c q.symm
        · rintro ⟨q1, q2⟩
          exact ⟨q1, fun k k1 k2 => q2 k (by omega) k2⟩
/-- what the object's sieve knows of its keys -/
def zSv (I : zI) (ks : Nat → Int32) (n : Nat) (wd : Int32) : Prop := n ≤ 300 ∧ I 2 2 = Int32.ofNat n ∧ (∀ i, i < n → I 3 i = ks i) ∧ I 178 4 = wd
theorem zp178t : zP true 178 3 = some 2 := rfl
theorem c_near {I : zI} {ks : Nat → Int32} {n i : Nat} {wd : Int32} (h : zSv I ks n wd) (hi : i < 2 ^ 30) : (znear ks n wd i → zg_Sieve_isNearNext_0 X 178 (Int32.ofNat i) (zM true I J) = some (some (.int 1), zM true I J)) ∧ (¬ znear ks n wd i → zg_Sieve_isNearNext_0 X 178 (Int32.ofNat i) (zM true I J) = some (some (.int 0), zM true I J)) := by
  obtain ⟨h1, h2, h3, h4⟩ := h
  have st : zg_Sieve_isNearNext_0 X 178 (Int32.ofNat i) (zM true I J) = if n ≤ i + 1 then some (some (.int 0), zM true I J) else if wd < ks (i + 1) - ks i then some (some (.int 0), zM true I J) else some (some (.int 1), zM true I J) := by
    rw [zg_Sieve_isNearNext_0_e, if_neg (fun q => absurd ((zkl0 (by omega)).mp q) (by omega)), zg_Sieve_isNearNext_49_e, zg_Sieve_isNearNext_50_e, zg_Sieve_isNearNext_50_e, zrb0, zrb1]
    simp only [zo178, zM_P, zp178t, zrf, zo2, zM_I, h2, zn_add1, zp2_0, h4]
    by_cases c : n ≤ i + 1
    · rw [if_pos ((zn_le (by omega) (by omega)).mpr c), if_pos c]
    · rw [if_neg (fun q => c ((zn_le (by omega) (by omega)).mp q)), if_neg c, zx3 (by omega), zx3 (by omega), h3 _ (by omega), h3 _ (by omega)]
  rw [st]
  unfold znear
  constructor
  · rintro ⟨q1, q2⟩
    rw [if_neg (by omega), if_neg q2]
  · intro q
    by_cases c : n ≤ i + 1
    · rw [if_pos c]
    · rw [if_neg c, if_pos (Classical.not_not.mp (fun w => q ⟨by omega, w⟩))]
theorem c_span {I : zI} {ks : Nat → Int32} {n i : Nat} {wd : Int32} (h : zSv I ks n wd) (hi : i < 2 ^ 30) : (zspan ks n wd i → zg_Sieve_isInSpan_0 X 178 (Int32.ofNat i) (zM true I J) = some (some (.int 1), zM true I J)) ∧ (¬ zspan ks n wd i → zg_Sieve_isInSpan_0 X 178 (Int32.ofNat i) (zM true I J) = some (some (.int 0), zM true I J)) := by
  have hn := c_near X (J := J) (i := i) h hi
  have hp : ∃ v : Int32, zg_Sieve_isNearNext_0 X 178 (Int32.ofNat i - 1) (zM true I J) = some (some (.int v), zM true I J) ∧ ((1 ≤ i ∧ znear ks n wd (i - 1)) → v = 1) ∧ (¬ (1 ≤ i ∧ znear ks n wd (i - 1)) → v = 0) := by
    rcases Nat.eq_zero_or_pos i with c | c
    · subst c
      refine ⟨0, ?_, fun q => by omega, fun _ => rfl⟩
      rw [zg_Sieve_isNearNext_0_e, if_pos (by decide), zg_Sieve_isNearNext_49_e, zg_Sieve_isNearNext_50_e, zrb0]
    · rw [zn_sub1 c]
      have hq := c_near X (J := J) (i := i - 1) h (by omega)
      rcases Classical.em (znear ks n wd (i - 1)) with d | d
      · exact ⟨1, hq.1 d, fun _ => rfl, fun q => absurd ⟨c, d⟩ q⟩
      · exact ⟨0, hq.2 d, fun q => absurd q.2 d, fun _ => rfl⟩
  obtain ⟨v, v1, v2, v3⟩ := hp
  rw [zg_Sieve_isInSpan_0_e, zo178, v1, zci, zg_Sieve_isInSpan_18_e, zg_Sieve_isInSpan_23_e, zrb1, zo178]
  unfold zspan
  constructor
  · rintro (q | q)
    · rw [v2 q, if_neg (by decide)]
    · rcases Classical.em (1 ≤ i ∧ znear ks n wd (i - 1)) with w | w
      · rw [v2 w, if_neg (by decide)]
      · rw [v3 w, if_pos rfl, hn.1 q, zci, if_neg (by decide), zg_Sieve_isInSpan_18_e, zg_Sieve_isInSpan_23_e, zrb1]
  · intro q
    rw [v3 (fun w => q (Or.inl w)), if_pos rfl, hn.2 (fun w => q (Or.inr w)), zci, if_pos rfl, zg_Sieve_isInSpan_22_e, zg_Sieve_isInSpan_23_e, zrb0]
/-- the marks of the keys that are chosen -/
def zmk (ks : Nat → Int32) (hs m : Nat) (sel : Nat → Prop) (n j : Nat) : Prop := ∃ i, i < n ∧ sel i ∧ ∃ h, h < hs ∧ zhv (ks i).toInt h m = j
theorem c_ready85 {ks : Nat → Int32} {n m hs : Nat} {wd : Int32} (hk : ∀ i, i < n → -999999999 ≤ (ks i).toInt ∧ (ks i).toInt ≤ 999999999) (hh : hs ≤ 4) (hm : 0 < m ∧ m ≤ 512) : ∀ (r i : Nat) (I : zI), i + r = n → zSv I ks n wd → I 178 1 = Int32.ofNat m → I 178 2 = Int32.ofNat hs → (∀ j, j < m → (I 179 j = 0 ↔ ¬ zmk ks hs m (fun i => ¬ zspan ks n wd i) i j)) → ∃ I', zg_Sieve_ready_85 X 178 (Int32.ofNat i) (zM true I J) = some (none, zM true I' J) ∧ (∀ j, j < m → (I' 179 j = 0 ↔ ¬ zmk ks hs m (fun i => ¬ zspan ks n wd i) n j)) ∧ ∀ a, a ≠ 179 → I' a = I a := by
  intro r
  induction r with
  | zero =>
    intro i I hi h h1 h2 hj
    have : i = n := by omega
    subst this
    refine ⟨I, ?_, hj, fun a _ => rfl⟩
    have hn := h.1
    rw [zg_Sieve_ready_85_e]
    simp only [zo178, zM_P, zp178t, zrf, zo2, zM_I, h.2.1]
    rw [if_pos ((zn_le (by omega) (by omega)).mpr (Nat.le_refl _)), zg_Sieve_ready_123_e]
  | succ r ih =>
    intro i I hi h h1 h2 hj
    have hn := h.1
    have hsp := c_span X (J := J) (i := i) h (by omega)
    have ext : ∀ j, zmk ks hs m (fun i => ¬ zspan ks n wd i) (i + 1) j ↔ (zmk ks hs m (fun i => ¬ zspan ks n wd i) i j ∨ (¬ zspan ks n wd i ∧ ∃ h, h < hs ∧ zhv (ks i).toInt h m = j)) := fun j => by
      unfold zmk
      constructor
      · rintro ⟨k, k1, k2, k3⟩
        rcases Nat.lt_or_ge k i with c | c
        · exact Or.inl ⟨k, c, k2, k3⟩
        · have : k = i := by omega
          rw [this] at k2 k3
          exact Or.inr ⟨k2, k3⟩
      · rintro (⟨k, k1, k2, k3⟩ | ⟨k2, k3⟩)
        · exact ⟨k, by omega, k2, k3⟩
        · exact ⟨i, by omega, k2, k3⟩
    rcases Classical.em (zspan ks n wd i) with c | c
    · obtain ⟨I', f1, f2, f3⟩ := ih (i + 1) I (by omega) h h1 h2 (fun j hjm => by
        rw [hj j hjm, ext]
        constructor
        · rintro q (w | w)
          · exact q w
          · exact w.1 c
        · exact fun q w => q (Or.inl w))
      refine ⟨I', ?_, f2, f3⟩
      rw [← f1, zg_Sieve_ready_85_e]
      simp only [zo178, zM_P, zp178t, zrf, zo2, zM_I, h.2.1, hsp.1 c, zci]
      rw [if_neg (fun q => absurd ((zn_le (by omega) (by omega)).mp q) (by omega)), if_neg (by decide), zg_Sieve_ready_117_e, zn_add1]
    · obtain ⟨I1, g1, g2, g3⟩ := c_mark X (b := true) (J := J) (x := ks i) (hk i (by omega)) hh hm hs 0 I (by omega) h1 h2
      have hsv : zSv I1 ks n wd := ⟨hn, by rw [g3 2 (by decide)]; exact h.2.1, fun k hk => by rw [g3 3 (by decide)]; exact h.2.2.1 k hk, by rw [g3 178 (by decide)]; exact h.2.2.2⟩
      obtain ⟨I', f1, f2, f3⟩ := ih (i + 1) I1 (by omega) hsv (by rw [g3 178 (by decide)]; exact h1) (by rw [g3 178 (by decide)]; exact h2) (fun j hjm => by
        rw [g2, hj j hjm, ext]
        constructor
        · rintro ⟨q1, q2⟩ (w | ⟨-, k, k1, k2⟩)
          · exact q1 w
          · exact q2 k (Nat.zero_le _) k1 k2
        · exact fun q => ⟨fun w => q (Or.inl w), fun k _ k1 k2 => q (Or.inr ⟨c, k, k1, k2⟩)⟩)
      refine ⟨I', ?_, f2, fun a ha => by rw [f3 a ha, g3 a ha]⟩
      have g1' : zg_Sieve_mark_2 X 178 (ks i) 0 (zM true I J) = _ := g1
      rw [← f1, zg_Sieve_ready_85_e]
      simp only [zo178, zM_P, zp178t, zrf, zo2, zM_I, h.2.1, hsp.2 c, zci, zp2_0]
      rw [if_neg (fun q => absurd ((zn_le (by omega) (by omega)).mp q) (by omega)), if_true, zx3 (by omega), h.2.2.1 i (by omega), zg_Sieve_mark_0_e, g1', zcv, zg_Sieve_ready_117_e, zn_add1]
end ZSV
