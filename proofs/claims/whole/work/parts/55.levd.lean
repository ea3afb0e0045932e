/-! covering a level -/
noncomputable def zPk (f : Nat → Int) (n e k : Nat) : Int := zslP (fun i => f (zF f n e k + i)) e (zF f n e (k + 1) - zF f n e k - 1)
noncomputable def zQk (f : Nat → Int) (n e k : Nat) : Int := zslQ (fun i => f (zF f n e k + i)) e (zF f n e (k + 1) - zF f n e k - 1)
/-- the data of the first K pieces -/
def zPcs (I : zI) (J : zJ) (lv : Nat) (f : Nat → Int) (n e K : Nat) : Prop := ∀ k, k < K → I (lv + 2) k = Int32.ofNat (zF f n e k) ∧ (I (lv + 3) k).toInt = zPk f n e k ∧ (I (lv + 4) k).toInt = zQk f n e k ∧ (0 ≤ zPk f n e k ∧ zPk f n e k ≤ 400 ∧ 0 < zQk f n e k ∧ zQk f n e k ≤ 2000000000) ∧ zLn f e (zF f n e k) (zF f n e (k + 1)) (zPk f n e k) (zQk f n e k) (J (lv + 5) k).toInt
def zLv (I : zI) (J : zJ) (lv : Nat) (f : Nat → Int) (n e : Nat) : Prop := I lv 1 = Int32.ofNat n ∧ I lv 2 = Int32.ofNat e ∧ I lv 3 = Int32.ofNat (zNp f n e) ∧ (∀ i, i < n → (I (lv + 1) i).toInt = f i) ∧ zPcs I J lv f n e (zNp f n e)
def zfb (f : Nat → Int) : Prop := ∀ i, -999999999 ≤ f i ∧ f i ≤ 999999999
theorem zof64 {x : Int64} {y : Int} (h : x.toInt = y) (h1 : -2147483648 ≤ y) (h2 : y ≤ 2147483647) : (Int64.toInt32 x).toInt = y := by
  rw [Int64.toInt_toInt32, h]
  exact Int.bmod_eq_of_le (by omega) (by omega)
section ZCV
variable (X : zv_X) {b : Bool}
theorem c_setLine {I : zI} {J : zJ} {lv cap i a c e : Nat} {f : Nat → Int} {p q : Int64} (hs : zLs b lv cap) (hi : i < cap / 2 + 1) (hfi : I (lv + 2) i = Int32.ofNat a) (he : I lv 2 = Int32.ofNat e) (he20 : e ≤ 20) (hc : c ≤ cap) (hc3 : c ≤ 400) (hac : a < c) (hrow : ∀ t, t < c → (I (lv + 1) t).toInt = f t) (hf : zfb f) (hsl : zSlp (fun i => f (a + i)) e (c - a - 1) p.toInt q.toInt) : ∃ (lP lQ : Int32) (L : Int64), zg_Level_setLine_0 X lv (Int32.ofNat i) (Int32.ofNat (c - 1)) p q (zM b I J) = some (none, zM b (zst (zst I (lv + 3) i lP) (lv + 4) i lQ) (zsJ J (lv + 5) i L)) ∧ lP.toInt = zslP (fun i => f (a + i)) e (c - a - 1) ∧ lQ.toInt = zslQ (fun i => f (a + i)) e (c - a - 1) ∧ (0 ≤ lP.toInt ∧ lP.toInt ≤ 400 ∧ 0 < lQ.toInt ∧ lQ.toInt ≤ 2000000000) ∧ zLn f e a c lP.toInt lQ.toInt L.toInt := by
  have hs' := hs
  obtain ⟨s0, s1, s2, s3, s4, s5, p0, p4, p5, p6, p7, hcap⟩ := hs
  obtain ⟨h1, h2, h3, h4⟩ := hsl
  have hp : p.toInt ≤ 400 := by
    rcases h4 with ⟨h, -⟩ | ⟨i, j, k1, k2, h, -⟩ <;> omega
  have hred : zred (fun i => f (a + i)) e (c - a - 1) (p.toInt / (Nat.gcd p.toInt.toNat q.toInt.toNat : Nat)) (q.toInt / (Nat.gcd p.toInt.toNat q.toInt.toNat : Nat)) := ⟨_, _, ⟨h1, h2, h3, h4⟩, rfl, rfl⟩
  have hbd := zred_bd2 hred (by omega) (fun i => hf (a + i))
  obtain ⟨v1, v2⟩ := zred_val hred
  obtain ⟨g, g1, g2⟩ := c_divisor X (p := p) (q := q) (a := p.toInt.toNat) (d := q.toInt.toNat) (by omega) (by omega) (by omega) (by omega) (zM b I J)
  have hgp : 0 < Nat.gcd p.toInt.toNat q.toInt.toNat := Nat.gcd_pos_of_pos_right _ (by omega)
  have hg0 : ¬ g = 0 := fun h => by rw [h] at g2; have : (0 : Int64).toInt = 0 := rfl; omega
  have hg1 : g ≠ -1 := fun h => by rw [h] at g2; have : (-1 : Int64).toInt = -1 := rfl; omega
  have eP : (p / g).toInt = p.toInt / (Nat.gcd p.toInt.toNat q.toInt.toNat : Nat) := by
    rw [Int64.toInt_div_of_ne_right p g hg1, g2, Int.tdiv_eq_ediv_of_nonneg h2]
  have eQ : (q / g).toInt = q.toInt / (Nat.gcd p.toInt.toNat q.toInt.toNat : Nat) := by
    rw [Int64.toInt_div_of_ne_right q g hg1, g2, Int.tdiv_eq_ediv_of_nonneg (by omega)]
  have fP := zof64 eP (by omega) (by omega)
  have fQ := zof64 eQ (by omega) (by omega)
  obtain ⟨L, k1, k2⟩ := c_line34 X (b := b) (J := J) (lP := Int64.toInt32 (p / g)) (lQ := Int64.toInt32 (q / g)) hs' hi hfi he he20 hc hc3 hac hrow (by rw [fP]; omega) (by rw [fQ]; omega) hf (c - a) a 0 (by omega) (Nat.le_refl _) (Or.inl rfl)
  refine ⟨_, _, L, ?_, by rw [fP, v1], by rw [fQ, v2], by rw [fP, fQ]; omega, k2⟩
  rw [zg_Level_setLine_0_e, g1, zcl, if_neg hg0, if_neg hg0]
  simp only [zM_I, zM_J, zM_P, zM_wI, zM_wL, zrf, zob s0, p4]
  rw [zix s2 hi (by omega), hfi, k1, zg_Level_setLine_96_e]
  simp only [zM_I, zM_J, zM_P, zM_wI, zM_wL, zrf, zob s0, p5, p6, p7]
  rw [zix s3 hi (by omega), zix s4 hi (by omega), zix s5 hi (by omega)]
theorem c_cov12 {lv cap n e ft : Nat} {f : Nat → Int} (hs : zLs b lv cap) (hft : zFt b ft) (hlv : ft + 6 < lv) (he20 : e ≤ 20) (hn : n ≤ cap) (hn3 : n ≤ 300) (hf : zfb f) (hu : zupto f n) : ∀ (m K : Nat) (I : zI) (J : zJ), K + m = zNp f n e → I lv 1 = Int32.ofNat n → I lv 2 = Int32.ofNat e → I lv 3 = Int32.ofNat K → (∀ i, i < n → (I (lv + 1) i).toInt = f i) → zPcs I J lv f n e K → ∃ I' J', zg_Level_coverBy_12 X lv ft (Int32.ofNat (zF f n e K)) (zM b I J) = some (none, zM b I' J') ∧ zLv I' J' lv f n e ∧ ∀ a, (a < ft ∨ ft + 6 < a) → (a < lv ∨ lv + 5 < a) → I' a = I a ∧ J' a = J a := by
  have hs' := hs
  obtain ⟨s0, s1, s2, s3, s4, s5, p0, p4, p5, p6, p7, hcap⟩ := hs
  have hNp := zNp_spec f n e
  have hhalf := zNp_half (e := e) hu
  intro m
  induction m with
  | zero =>
    intro K I J hK h1 h2 h3 hr hp
    have : K = zNp f n e := by omega
    subst this
    refine ⟨I, J, ?_, ⟨h1, h2, h3, hr, hp⟩, fun a _ _ => ⟨rfl, rfl⟩⟩
    rw [zg_Level_coverBy_12_e, hNp.1]
    simp only [zM_I, zM_J, zM_P, zM_wI, zM_wL, zrf, zob s0, h1]
    rw [if_pos (by rw [zi_le]; exact Int.le_refl _), zg_Level_coverBy_97_e]
  | succ m ih =>
    intro K I J hK h1 h2 h3 hr hp
    have hFK := hNp.2 K (by omega)
    obtain ⟨I1, J1, last, r1, r2, r3, r4, r5, r6⟩ := c_reach X (b := b) (x := fun i => f (zF f n e K + i)) (e := e) (fr := zF f n e K) (en := n) (I := I) (J := J) hft s1 hcap (by omega) he20 hFK hn (by omega) (fun i => by have := hf (zF f n e K + i); omega) (fun i j hij hj => hu _ _ (by omega) hj) (fun j hj => hr _ hj)
    have hlast : zrch (fun i => f (zF f n e K + i)) e (n - zF f n e K) = last := zrch_uniq (by omega) r3 (r4.elim (fun h => Or.inl (by omega)) Or.inr)
    have hF1 : zF f n e (K + 1) = zF f n e K + last + 1 := by rw [zF_succ hFK, hlast]
    have gI : ∀ a, ft + 6 < a → I1 a = I a := fun a ha => (r6 a (Or.inr ha)).1
    have gJ : ∀ a, ft + 6 < a → J1 a = J a := fun a ha => (r6 a (Or.inr ha)).2
    have hKc : K < cap / 2 + 1 := by omega
    obtain ⟨lP, lQ, L, k1, k2, k3, k4, k5⟩ := c_setLine X (b := b) (I := zst I1 (lv + 2) K (Int32.ofNat (zF f n e K))) (J := J1) (i := K) (a := zF f n e K) (c := zF f n e K + last + 1) (e := e) (f := f) (p := J1 ft 2) (q := J1 ft 3) hs' hKc zst_self (by rw [zst_ne (by omega), gI lv (by omega)]; exact h2) he20 (by omega) (by omega) (by omega) (fun t ht => by rw [zst_ne (by omega), gI (lv + 1) (by omega)]; exact hr t (by omega)) hf (by
      rw [show zF f n e K + last + 1 - zF f n e K - 1 = last by omega]; exact r5)
    have ePk : zPk f n e K = zslP (fun i => f (zF f n e K + i)) e (zF f n e K + last + 1 - zF f n e K - 1) := by unfold zPk; rw [hF1]
    have eQk : zQk f n e K = zslQ (fun i => f (zF f n e K + i)) e (zF f n e K + last + 1 - zF f n e K - 1) := by unfold zQk; rw [hF1]
    have hI2 : ∀ a, ft + 6 < a → a ≠ lv + 2 → a ≠ lv + 3 → a ≠ lv + 4 → a ≠ lv → (zst (zst (zst (zst I1 (lv + 2) K (Int32.ofNat (zF f n e K))) (lv + 3) K lP) (lv + 4) K lQ) lv 3 (Int32.ofNat (K + 1))) a = I a := fun a h1 h2 h3 h4 h5 => by
      rw [zst_ne h5, zst_ne h4, zst_ne h3, zst_ne h2, gI a h1]
    obtain ⟨I', J', f1, f2, f3⟩ := ih (K + 1) (zst (zst (zst (zst I1 (lv + 2) K (Int32.ofNat (zF f n e K))) (lv + 3) K lP) (lv + 4) K lQ) lv 3 (Int32.ofNat (K + 1))) (zsJ J1 (lv + 5) K L) (by omega) (by
        rw [zst_off (by decide), zst_ne (by omega), zst_ne (by omega), zst_ne (by omega), gI lv (by omega)]; exact h1) (by
        rw [zst_off (by decide), zst_ne (by omega), zst_ne (by omega), zst_ne (by omega), gI lv (by omega)]; exact h2) zst_self (fun i hi => by
        rw [hI2 (lv + 1) (by omega) (by omega) (by omega) (by omega) (by omega)]; exact hr i hi) (fun k hk => by
        rcases Nat.lt_or_ge k K with c | c
        · obtain ⟨q1, q2, q3, q4, q5⟩ := hp k c
          simp (disch := omega) only [zst_ne, zst_off, zsJ_off]
          rw [gI (lv + 2) (by omega), gI (lv + 3) (by omega), gI (lv + 4) (by omega), gJ (lv + 5) (by omega)]
          exact ⟨q1, q2, q3, q4, q5⟩
        · have : k = K := by omega
          subst this
          simp (disch := omega) only [zst_ne, zst_self, zsJ_self]
          rw [ePk, eQk, ← k2, ← k3, hF1]
          exact ⟨trivial, rfl, rfl, k4, k5⟩)
    refine ⟨I', J', ?_, f2, fun a h1 h2 => ?_⟩
    · rw [← f1, zg_Level_coverBy_12_e]
      simp only [zM_I, zM_J, zM_P, zM_wI, zM_wL, zrf, zob s0, zob hft.1, h1, h2, h3, p0, p4, zlen' s2 (show 0 < 7 by decide), r1, zci]
      rw [if_neg (fun q => absurd ((zn_le (by omega) (by omega)).mp q) (by omega)), if_neg (fun q => absurd ((zn_le (by omega) (by omega)).mp q) (by omega)), gI lv (by omega), h3, zix s2 hKc (by omega), zst_ne (by omega), gI lv (by omega), h3]
      rw [show zF f n e K + last + 1 - 1 = zF f n e K + last by omega] at k1
      rw [k1, zcv, zob s0, zob s0, zM_I, zst_ne (by omega), zst_ne (by omega), zst_ne (by omega), gI lv (by omega), h3, zM_wI, zn_add1, zn_add1, hF1]
    · obtain ⟨w1, w2⟩ := f3 a h1 h2
      constructor
      · rw [w1]
        simp (disch := omega) only [zst_ne]
        exact (r6 a h1).1
      · rw [w2, zsJ_ne (by omega)]
        exact (r6 a h1).2
theorem c_coverBy {I : zI} {J : zJ} {lv cap n e ft : Nat} {f : Nat → Int} (hs : zLs b lv cap) (hft : zFt b ft) (hlv : ft + 6 < lv) (he20 : e ≤ 20) (hn : n ≤ cap) (hn3 : n ≤ 300) (hf : zfb f) (hu : zupto f n) (h1 : I lv 1 = Int32.ofNat n) (hr : ∀ i, i < n → (I (lv + 1) i).toInt = f i) : ∃ I' J', zg_Level_coverBy_0 X lv ft (Int32.ofNat e) (zM b I J) = some (none, zM b I' J') ∧ zLv I' J' lv f n e ∧ ∀ a, (a < ft ∨ ft + 6 < a) → (a < lv ∨ lv + 5 < a) → I' a = I a ∧ J' a = J a := by
  obtain ⟨I', J', f1, f2, f3⟩ := c_cov12 X (b := b) hs hft hlv he20 hn hn3 hf hu (zNp f n e) 0 (zst (zst I lv 2 (Int32.ofNat e)) lv 3 0) J (by omega) (by rw [zst_off (by decide), zst_off (by decide)]; exact h1) (by rw [zst_off (by decide), zst_self]) zst_self (fun i hi => by rw [zst_ne (by omega), zst_ne (by omega)]; exact hr i hi) (fun k hk => by omega)
  refine ⟨I', J', ?_, f2, fun a w1 w2 => ?_⟩
  · rw [zg_Level_coverBy_0_e]
    simp only [zM_I, zM_J, zM_P, zM_wI, zM_wL, zrf, zob hs.1]
    exact f1
  · obtain ⟨y1, y2⟩ := f3 a w1 w2
    rw [y1, y2, zst_ne (by omega), zst_ne (by omega)]
    exact ⟨rfl, rfl⟩
theorem c_takeRow {I : zI} {J : zJ} {lv cap ar N n : Nat} (hs : zLs b lv cap) (har : zSH[ar]? = some (.inl (0, N))) (hN : N < 2 ^ 20) (hn : n ≤ N) (hnc : n ≤ cap) (hne : ar ≠ lv) : ∃ I', zg_Level_takeRow_0 X lv ar (Int32.ofNat n) (zM b I J) = some (none, zM b I' J) ∧ I' lv 1 = Int32.ofNat n ∧ (∀ i, i < n → I' (lv + 1) i = I ar i) ∧ ∀ a, a ≠ lv → a ≠ lv + 1 → I' a = I a := by
  obtain ⟨s0, s1, s2, s3, s4, s5, p0, p4, p5, p6, p7, hcap⟩ := hs
  have e0 : (0 : Int32) = Int32.ofNat 0 := rfl
  refine ⟨va_up (zst I lv 1 (Int32.ofNat n)) (lv + 1) (va_cpy (zst I lv 1 (Int32.ofNat n) ar) (zst I lv 1 (Int32.ofNat n) (lv + 1)) 0 0 n), ?_, ?_, fun i hi => ?_, fun a a1 a2 => by rw [zup_ne a2, zst_ne a1]⟩
  · rw [zg_Level_takeRow_0_e, zlen' har (show 0 < 7 by decide), zob s0, zM_P, p0, zrf, zlen' s1 (show 0 < 7 by decide), s_minN X _ _ _ (by omega) (by omega), zci, s_minN X _ _ _ (by omega) (by omega), zci, e0, s_maxN X _ _ _ (by omega) (by omega), zci, zob s0, zM_wI, zob s0, zM_P, p0, zrf, zob s0, zM_I, zst_self, show max 0 (min n (min N cap)) = n by omega]
    exact zac0 har s1 hn hnc (by omega) (by omega) (by decide)
  · rw [zup_ne (by omega), zst_self]
  · rw [zup_same]
    unfold va_cpy
    rw [if_pos (by omega), zst_ne hne]
    simp
theorem c_firstKey {I : zI} {J : zJ} {lv cap n e k : Nat} {f : Nat → Int} (hs : zLs b lv cap) (hn : n ≤ cap) (hu : zupto f n) (h : zLv I J lv f n e) (hk : k < zNp f n e) : zg_Level_firstKeyOf_0 X lv (Int32.ofNat k) (zM b I J) = some (some (.int (I (lv + 1) (zF f n e k))), zM b I J) := by
  obtain ⟨s0, s1, s2, s3, s4, s5, p0, p4, p5, p6, p7, hcap⟩ := hs
  have hF := (zNp_spec f n e).2 k hk
  have hhalf := zNp_half (e := e) hu
  obtain ⟨q1, -⟩ := h.2.2.2.2 k hk
  rw [zg_Level_firstKeyOf_0_e]
  simp only [zM_I, zM_J, zM_P, zM_wI, zM_wL, zrf, zob s0, p0, p4]
  rw [zix s2 (by omega) (by omega), q1, zix s1 (by omega) (by omega)]
theorem c_tfk18 {lv cap lv2 cap2 n e : Nat} {J : zJ} {f : Nat → Int} (hs : zLs b lv cap) (hs2 : zLs b lv2 cap2) (hlt : lv2 + 5 < lv) (hn : n ≤ cap2) (hu : zupto f n) (hN : zNp f n e ≤ cap) : ∀ (m k : Nat) (I : zI), k + m = zNp f n e → zLv I J lv2 f n e → I lv 1 = Int32.ofNat (zNp f n e) → ∃ I', zg_Level_takeFirstKeys_18 X lv lv2 (Int32.ofNat k) (zM b I J) = some (none, zM b I' J) ∧ (∀ a, a ≠ lv + 1 → I' a = I a) ∧ (∀ i, i < k → I' (lv + 1) i = I (lv + 1) i) ∧ ∀ i, k ≤ i → i < zNp f n e → (I' (lv + 1) i).toInt = f (zF f n e i) := by
  have hs' := hs
  have hs2' := hs2
  obtain ⟨s0, s1, s2, s3, s4, s5, p0, p4, p5, p6, p7, hcap⟩ := hs
  obtain ⟨t0, -⟩ := hs2
  intro m
  induction m with
  | zero =>
    intro k I hk hL h1
    refine ⟨I, ?_, fun a _ => rfl, fun i _ => rfl, fun i h1 h2 => by omega⟩
    rw [zg_Level_takeFirstKeys_18_e]
    simp only [zM_I, zM_J, zM_P, zM_wI, zM_wL, zrf, zob s0, h1]
    rw [if_pos ((zn_le (by omega) (by omega)).mpr (by omega)), zg_Level_takeFirstKeys_43_e]
  | succ m ih =>
    intro k I hk hL h1
    have hF := (zNp_spec f n e).2 k (by omega)
    have hrow := hL.2.2.2.1 _ hF
    have hL' : zLv (zst I (lv + 1) k (I (lv2 + 1) (zF f n e k))) J lv2 f n e := by
      obtain ⟨y1, y2, y3, y4, y5⟩ := hL
      refine ⟨by rw [zst_ne (by omega)]; exact y1, by rw [zst_ne (by omega)]; exact y2, by rw [zst_ne (by omega)]; exact y3, fun i hi => by rw [zst_ne (by omega)]; exact y4 i hi, fun k hk => ?_⟩
      rw [zst_ne (by omega), zst_ne (by omega), zst_ne (by omega)]
      exact y5 k hk
    obtain ⟨I', f1, f2, f3, f4⟩ := ih (k + 1) (zst I (lv + 1) k (I (lv2 + 1) (zF f n e k))) (by omega) hL' (by rw [zst_ne (by omega)]; exact h1)
    refine ⟨I', ?_, fun a ha => by rw [f2 a ha, zst_ne ha], fun i hi => by rw [f3 i (by omega), zst_off (by omega)], fun i h1 h2 => ?_⟩
    · rw [← f1, zg_Level_takeFirstKeys_18_e]
      simp only [zM_I, zM_J, zM_P, zM_wI, zM_wL, zrf, zob s0, zob t0, h1, p0, c_firstKey X hs2' hn hu hL (show k < zNp f n e by omega), zci]
      rw [if_neg (fun q => absurd ((zn_le (by omega) (by omega)).mp q) (by omega)), zix s1 (by omega) (by omega), zn_add1]
    · rcases Nat.lt_or_ge k i with c | c
      · exact f4 i c h2
      · have : i = k := by omega
        subst this
        rw [f3 i (by omega), zst_self]; exact hrow
theorem c_takeFirst {I : zI} {J : zJ} {lv cap lv2 cap2 n e : Nat} {f : Nat → Int} (hs : zLs b lv cap) (hs2 : zLs b lv2 cap2) (hlt : lv2 + 5 < lv) (hn : n ≤ cap2) (hu : zupto f n) (hN : zNp f n e ≤ cap) (hL : zLv I J lv2 f n e) : ∃ I', zg_Level_takeFirstKeys_0 X lv lv2 (zM b I J) = some (none, zM b I' J) ∧ I' lv 1 = Int32.ofNat (zNp f n e) ∧ (∀ i, i < zNp f n e → (I' (lv + 1) i).toInt = f (zF f n e i)) ∧ ∀ a, a ≠ lv → a ≠ lv + 1 → I' a = I a := by
  have hL' : zLv (zst I lv 1 (Int32.ofNat (zNp f n e))) J lv2 f n e := by
    obtain ⟨y1, y2, y3, y4, y5⟩ := hL
    refine ⟨by rw [zst_ne (by omega)]; exact y1, by rw [zst_ne (by omega)]; exact y2, by rw [zst_ne (by omega)]; exact y3, fun i hi => by rw [zst_ne (by omega)]; exact y4 i hi, fun k hk => ?_⟩
    rw [zst_ne (by omega), zst_ne (by omega), zst_ne (by omega)]
    exact y5 k hk
  obtain ⟨I', f1, f2, f3, f4⟩ := c_tfk18 X (b := b) (J := J) hs hs2 hlt hn hu hN (zNp f n e) 0 (zst I lv 1 (Int32.ofNat (zNp f n e))) (by omega) hL' zst_self
  have hcap := hs.2.2.2.2.2.2.2.2.2.2.2
  refine ⟨I', ?_, by rw [f2 lv (by omega), zst_self], fun i hi => f4 i (Nat.zero_le _) hi, fun a a1 a2 => by rw [f2 a a2, zst_ne a1]⟩
  rw [zg_Level_takeFirstKeys_0_e]
  simp only [zM_I, zM_J, zM_P, zM_wI, zM_wL, zrf, zob hs.1, zob hs2.1, hs.2.2.2.2.2.2.1, hL.2.2.1, zlen' hs.2.1 (show 0 < 7 by decide)]
  rw [s_minN X _ _ _ (by omega) (by omega), zci, zob hs.1, zM_wI, show min (zNp f n e) cap = zNp f n e by omega]
  exact f1
theorem c_lastOf {I : zI} {J : zJ} {lv cap n e k : Nat} {f : Nat → Int} (hs : zLs b lv cap) (hn : n ≤ cap) (hu : zupto f n) (h : zLv I J lv f n e) (hk : k < zNp f n e) : zg_Level_lastOf_0 X lv (Int32.ofNat k) (zM b I J) = some (some (.int (Int32.ofNat (zF f n e (k + 1) - 1))), zM b I J) := by
  obtain ⟨s0, s1, s2, s3, s4, s5, p0, p4, p5, p6, p7, hcap⟩ := hs
  have hhalf := zNp_half (e := e) hu
  have hNp := zNp_spec f n e
  have hmono := zF_mono (f := f) (n := n) (e := e) (show k < k + 1 by omega) (by omega)
  have hle := zF_le f n e (k + 1)
  rw [zg_Level_lastOf_0_e]
  simp only [zM_I, zM_J, zM_P, zM_wI, zM_wL, zrf, zob s0, p4, h.2.2.1, zn_add1, zg_Level_lastOf_23_e, zg_Level_lastOf_29_e, h.1]
  rcases Nat.lt_or_ge (k + 1) (zNp f n e) with c | c
  · obtain ⟨q1, -⟩ := h.2.2.2.2 (k + 1) c
    rw [if_neg (fun q => absurd ((zn_le (by omega) (by omega)).mp q) (by omega)), zix s2 (by omega) (by omega), q1, zn_sub1 (by omega)]
  · have : k + 1 = zNp f n e := by omega
    rw [if_pos ((zn_le (by omega) (by omega)).mpr (by omega)), this, hNp.1, zn_sub1 (by omega)]
theorem c_guessed {I : zI} {J : zJ} {lv cap n e k : Nat} {f : Nat → Int} {x : Int32} {L : Int} (hs : zLs b lv cap) (hn : n ≤ cap) (hn3 : n ≤ 300) (he : e ≤ 20) (hu : zupto f n) (hf : zfb f) (h : zLv I J lv f n e) (hk : k < zNp f n e) (hL : zLn f e (zF f n e k) (zF f n e (k + 1)) (zPk f n e k) (zQk f n e k) L) : ∃ g : Nat, zg_Level_guessed_0 X lv (Int32.ofNat k) x (zM b I J) = some (some (.int (Int32.ofNat g)), zM b I J) ∧ (g : Int) = zgv (zPk f n e k) (zQk f n e k) L (zF f n e (k + 1)) x.toInt := by
  have hs' := hs
  obtain ⟨s0, s1, s2, s3, s4, s5, p0, p4, p5, p6, p7, hcap⟩ := hs
  have hhalf := zNp_half (e := e) hu
  have hmono := zF_mono (f := f) (n := n) (e := e) (show k < k + 1 by omega) (by omega)
  have hle := zF_le f n e (k + 1)
  obtain ⟨q1, q2, q3, q4, q5⟩ := h.2.2.2.2 k hk
  have eL := zLn_uniq q5 hL
  have hxr := zi_rng x
  have hLb : -10000000000000 ≤ L ∧ L ≤ 10000000000000 := by
    obtain ⟨-, t, t1, t2, t3⟩ := hL
    have w1 := zabsmul (a := zQk f n e k) (c := (t : Int) - e) (A := 2000000000) (C := 1000) (by omega) (by omega) (by omega) (by omega)
    have hft := hf t
    have w2 := zabsmul (a := zPk f n e k) (c := f t) (A := 400) (C := 1000000000) (by omega) (by omega) (by omega) (by omega)
    omega
  have wPx := zabsmul (a := zPk f n e k) (c := x.toInt) (A := 400) (C := 2147483648) (by omega) (by omega) (by omega) (by omega)
  have eq : (if (1 : Int32) < I (lv + 4) k then I (lv + 4) k else 1).toInt = zQk f n e k := by
    have e1 : (1 : Int32).toInt = 1 := rfl
    split
    · exact q3
    · rename_i hh
      rw [zi_lt, e1, q3] at hh
      rw [e1]; omega
  have m1 : (Int32.toInt64 (I (lv + 3) k) * Int32.toInt64 x).toInt = zPk f n e k * x.toInt := by
    rw [zl_mul, Int32.toInt_toInt64, Int32.toInt_toInt64, q2]
    · rw [Int32.toInt_toInt64, Int32.toInt_toInt64, q2]; omega
    · rw [Int32.toInt_toInt64, Int32.toInt_toInt64, q2]; omega
  have m2 : (Int32.toInt64 (I (lv + 3) k) * Int32.toInt64 x + J (lv + 5) k).toInt = zPk f n e k * x.toInt + L := by
    rw [zl_add, m1, eL]
    · rw [m1, eL]; omega
    · rw [m1, eL]; omega
  have hq0 : 0 < (Int32.toInt64 (if (1 : Int32) < I (lv + 4) k then I (lv + 4) k else 1)).toInt := by
    rw [Int32.toInt_toInt64, eq]; omega
  obtain ⟨fd, d1, d2⟩ := s_floorDiv X (Int32.toInt64 (I (lv + 3) k) * Int32.toInt64 x + J (lv + 5) k) (Int32.toInt64 (if (1 : Int32) < I (lv + 4) k then I (lv + 4) k else 1)) (zM b I J) hq0
  rw [m2, Int32.toInt_toInt64, eq] at d2
  have el : (Int32.toInt64 (Int32.ofNat (zF f n e (k + 1) - 1) + 1)).toInt = (zF f n e (k + 1) : Int) := by
    rw [Int32.toInt_toInt64, zn_add1, zn_int (by omega)]; omega
  have e00 : (0 : Int64).toInt = 0 := rfl
  have hv : (if (0 : Int64) < (if (Int32.toInt64 (Int32.ofNat (zF f n e (k + 1) - 1) + 1)) < fd then (Int32.toInt64 (Int32.ofNat (zF f n e (k + 1) - 1) + 1)) else fd) then (if (Int32.toInt64 (Int32.ofNat (zF f n e (k + 1) - 1) + 1)) < fd then (Int32.toInt64 (Int32.ofNat (zF f n e (k + 1) - 1) + 1)) else fd) else 0).toInt = zgv (zPk f n e k) (zQk f n e k) L (zF f n e (k + 1)) x.toInt := by
    unfold zgv
    rw [← d2]
    have hin : (if (Int32.toInt64 (Int32.ofNat (zF f n e (k + 1) - 1) + 1)) < fd then (Int32.toInt64 (Int32.ofNat (zF f n e (k + 1) - 1) + 1)) else fd).toInt = min fd.toInt (zF f n e (k + 1)) := by
      split
      · rename_i hh
        rw [zl_lt, el] at hh
        rw [el]; omega
      · rename_i hh
        rw [zl_lt, el] at hh
        omega
    have outer : ∀ w : Int64, w.toInt = min fd.toInt (zF f n e (k + 1)) → (if (0 : Int64) < w then w else 0).toInt = max 0 (min fd.toInt (zF f n e (k + 1))) := fun w hw => by
      split
      · rename_i hh
        rw [zl_lt, e00, hw] at hh
        rw [hw]; omega
      · rename_i hh
        rw [zl_lt, e00, hw] at hh
        rw [e00]; omega
    exact outer _ hin
  have hz : 0 ≤ zgv (zPk f n e k) (zQk f n e k) L (zF f n e (k + 1)) x.toInt ∧ zgv (zPk f n e k) (zQk f n e k) L (zF f n e (k + 1)) x.toInt ≤ 400 := by
    unfold zgv; omega
  refine ⟨(zgv (zPk f n e k) (zQk f n e k) L (zF f n e (k + 1)) x.toInt).toNat, ?_, by omega⟩
  rw [zg_Level_guessed_0_e]
  simp only [zM_I, zM_J, zM_P, zM_wI, zM_wL, zrf, zob s0, p5, p6, p7]
  rw [zix s4 (by omega) (by omega), s_max, zci]
  simp only [zM_I, zM_J, zM_P, zM_wI, zM_wL, zrf, zob s0, p5, p6, p7]
  rw [zix s3 (by omega) (by omega), zix s5 (by omega) (by omega), d1, zcl, zob s0, c_lastOf X hs' hn hu h hk, zci, s_minL, zcl, s_maxL, zcl]
  congr 4
  rw [zi_eq, zof64 hv (by omega) (by omega), zn_int (by omega)]
  omega
end ZCV
