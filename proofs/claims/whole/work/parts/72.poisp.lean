/-! one more key among the pieces -/
theorem zfe_congr {x y : Nat → Int} {e k : Nat} (h : ∀ i, i ≤ k → x i = y i) : zfe x e k ↔ zfe y e k := by
  unfold zfe
  constructor
  · intro q i j i' j' h1 h2 h3 h4
    rw [← h j h2, ← h i (by omega), ← h j' h4, ← h i' (by omega)]
    exact q i j i' j' h1 h2 h3 h4
  · intro q i j i' j' h1 h2 h3 h4
    rw [h j h2, h i (by omega), h j' h4, h i' (by omega)]
    exact q i j i' j' h1 h2 h3 h4
section ZPO
variable {f fx : Nat → Int} {n e t p s : Nat}
theorem zF_wm (k : Nat) : zF f n e k ≤ zF f n e (k + 1) := by
  rw [zF]
  split <;> omega
theorem zF_wm2 {j : Nat} : ∀ d, zF f n e j ≤ zF f n e (j + d)
  | 0 => Nat.le_refl _
  | d + 1 => Nat.le_trans (zF_wm2 d) (zF_wm (j + d))
theorem zF_pre (h1 : ∀ i, i < t → fx i = f i) (ht : t ≤ n) : ∀ s, (s = 0 ∨ zF f n e s < t) → zF fx (n + 1) e s = zF f n e s := by
  intro s
  induction s with
  | zero => exact fun _ => rfl
  | succ s ih =>
    intro hs
    have hs' : zF f n e (s + 1) < t := hs.resolve_left (by omega)
    have hm := zF_wm (f := f) (n := n) (e := e) s
    have ha := ih (Or.inr (by omega))
    have han : zF f n e s < n := by omega
    have e1 := zF_succ (f := f) (e := e) han
    have e2 := zF_succ (f := fx) (n := n + 1) (e := e) (k := s) (by omega)
    obtain ⟨r1, r2, r3⟩ := zrch_spec (fun i => f (zF f n e s + i)) e (n := n - zF f n e s) (by omega)
    have hr := zrch_uniq (x := fun i => fx (zF f n e s + i)) (e := e) (n := n + 1 - zF f n e s) (r := zrch (fun i => f (zF f n e s + i)) e (n - zF f n e s)) (by omega) ((zfe_congr (fun i hi => h1 _ (by omega))).mpr r2) (Or.inr (fun q => (r3.resolve_left (by omega)) ((zfe_congr (fun i hi => h1 _ (by omega))).mp q)))
    rw [e2, ha, hr, e1]
theorem zF_suf (h2 : ∀ i, t ≤ i → fx (i + 1) = f i) (hs : t ≤ zF f n e s) (h0 : zF fx (n + 1) e p = zF f n e s + 1) : ∀ d, zF fx (n + 1) e (p + d) = zF f n e (s + d) + 1
  | 0 => h0
  | d + 1 => by
    have ih := zF_suf h2 hs h0 d
    have hm := zF_wm2 (f := f) (n := n) (e := e) (j := s) d
    have hle := zF_le f n e (s + d)
    by_cases c : zF f n e (s + d) < n
    · have e1 := zF_succ (f := f) (e := e) c
      have e2 := zF_succ (f := fx) (n := n + 1) (e := e) (k := p + d) (by omega)
      have ef : (fun i => fx (zF fx (n + 1) e (p + d) + i)) = fun i => f (zF f n e (s + d) + i) := by
        funext i
        rw [ih, show zF f n e (s + d) + 1 + i = zF f n e (s + d) + i + 1 by omega]
        exact h2 _ (by omega)
      rw [show p + (d + 1) = p + d + 1 by omega, show s + (d + 1) = s + d + 1 by omega, e2, e1, ef, ih, show n + 1 - (zF f n e (s + d) + 1) = n - zF f n e (s + d) by omega]
      omega
    · have e1 : zF f n e (s + d + 1) = zF f n e (s + d) := by rw [zF, if_neg c]
      have e2 : zF fx (n + 1) e (p + d + 1) = zF fx (n + 1) e (p + d) := by rw [zF, if_neg (by omega)]
      rw [show p + (d + 1) = p + d + 1 by omega, show s + (d + 1) = s + d + 1 by omega, e2, e1, ih]
theorem zNp_suf (h2 : ∀ i, t ≤ i → fx (i + 1) = f i) (hs : t ≤ zF f n e s) (h0 : zF fx (n + 1) e p = zF f n e s + 1) (hsP : s < zNp f n e) : zNp fx (n + 1) e = p + (zNp f n e - s) := by
  obtain ⟨q1, q2⟩ := zNp_spec f n e
  have sf := zF_suf h2 hs h0
  refine zNp_uniq ?_ (fun j hj => ?_)
  · have := sf (zNp f n e - s)
    rw [show s + (zNp f n e - s) = zNp f n e by omega] at this
    omega
  · rcases Nat.lt_or_ge j p with c | c
    · have := zF_wm2 (f := fx) (n := n + 1) (e := e) (j := j) (p - j)
      rw [show j + (p - j) = p by omega] at this
      have := q2 s hsP
      omega
    · have := sf (j - p)
      rw [show p + (j - p) = j by omega] at this
      have := q2 (s + (j - p)) (by omega)
      omega
end ZPO
/-! the numbers beside keys, one after another -/
def zIn32 (g : Nat → Int32) (t : Nat) (x : Int32) : Nat → Int32 := fun i => if i < t then g i else if i = t then x else g (i - 1)
def zfx (K : zKL) (t : Nat) (x : Int32) : Nat → Int := fun i => (zIn32 (zksK K) t x i).toInt
def zltK (K : zKL) (x : Int32) : Nat := (K.filter (fun q => decide (q.1 < x))).length
theorem zltK_eq {A B : zKL} {x : Int32} (h1 : ∀ q ∈ A, q.1 < x) (h2 : ∀ q ∈ B, x < q.1) : zltK (A ++ B) x = A.length := by
  unfold zltK
  rw [List.filter_append, List.filter_eq_self.mpr (fun q hq => by simpa using h1 q hq), List.filter_eq_nil_iff.mpr (fun q hq => by
    have := h2 q hq
    rw [zi_lt] at this
    simp only [decide_eq_true_eq, zi_lt]
    omega), List.append_nil]
/-- how many pieces there are with x -/
noncomputable def zV (K : zKL) (e : Nat) (x : Int32) : Nat := zNp (zfx K (zltK K x) x) (K.length + 1) e
def zcd (K : zKL) (j : Nat) : Int32 := zksK K (j / 2) + (if j % 2 = 0 then -1 else 1)
abbrev zok (K : zKL) (x : Int32) : Prop := ¬ (x < -999999999 ∨ 999999999 < x) ∧ zcnt x K = 0
noncomputable def zpo (K : zKL) (e : Nat) : Nat → Int32 × Nat
  | 0 => (zN, 0)
  | j + 1 => @ite _ (zok K (zcd K j) ∧ (zpo K e j).2 < zV K e (zcd K j)) (Classical.propDecidable _) (zcd K j, zV K e (zcd K j)) (zpo K e j)
section ZPQ
variable {K : zKL} {e : Nat}
theorem zpo_y {j : Nat} (h1 : zok K (zcd K j)) (h2 : (zpo K e j).2 < zV K e (zcd K j)) : zpo K e (j + 1) = (zcd K j, zV K e (zcd K j)) := by
  rw [zpo, if_pos ⟨h1, h2⟩]
theorem zpo_n {j : Nat} (h : ¬ (zok K (zcd K j) ∧ (zpo K e j).2 < zV K e (zcd K j))) : zpo K e (j + 1) = zpo K e j := by
  rw [zpo, if_neg h]
theorem zV_pos (x : Int32) : 0 < zV K e x := zNp_pos (by omega)
theorem zcd_int {j : Nat} (hb : zKb K) (hj : j < 2 * K.length) : (zcd K j).toInt = (zksK K (j / 2)).toInt + (if j % 2 = 0 then -1 else 1) := by
  have := zks_bd hb (show j / 2 < K.length by omega)
  unfold zcd
  have e1 : (-1 : Int32).toInt = -1 := rfl
  have e2 : (1 : Int32).toInt = 1 := rfl
  by_cases c : j % 2 = 0
  · rw [if_pos c, if_pos c, zi_add (by rw [e1]; omega) (by rw [e1]; omega), e1]
  · rw [if_neg c, if_neg c, zi_add (by rw [e2]; omega) (by rw [e2]; omega), e2]
theorem zcnt_key (hs : zSrt K) (hz : ∀ q ∈ K, q.2 ≠ 0) {i : Nat} (hi : i < K.length) : zcnt (zksK K i) K ≠ 0 := by
  intro h
  obtain ⟨A, B, h1, h2, hc⟩ := zways (zksK K i) K hs
  obtain ⟨q, hq, e1⟩ := zks_mem hi
  rcases hc with ⟨hc, -, -⟩ | ⟨c, hc, c2, -⟩
  · rw [hc] at hq
    rcases List.mem_append.mp hq with w | w
    · exact zi_irr _ (e1 ▸ h1 q w)
    · exact zi_irr _ (e1 ▸ h2 q w)
  · rw [h] at c2
    have hm : (zksK K i, c) ∈ A ++ (zksK K i, c) :: B := by simp
    rw [← hc] at hm
    exact hz _ hm c2.symm
/-- candidates come in order -/
theorem zcd_le (hs : zSrt K) (hb : zKb K) (hz : ∀ q ∈ K, q.2 ≠ 0) {j j' : Nat} (hj : j < j') (hj' : j' < 2 * K.length) (h1 : zok K (zcd K j)) : (zcd K j).toInt ≤ (zcd K j').toInt := by
  rw [zcd_int hb (by omega), zcd_int hb hj']
  rcases Nat.lt_or_ge (j / 2) (j' / 2) with c | c
  · have hlt := zks_lt hs c (by omega)
    rw [zi_lt] at hlt
    by_cases d : (zksK K (j' / 2)).toInt = (zksK K (j / 2)).toInt + 1
    · by_cases d2 : j % 2 = 0
      · rw [if_pos d2]
        split <;> omega
      · exfalso
        apply zcnt_key hs hz (show j' / 2 < K.length by omega)
        have : zksK K (j' / 2) = zcd K j := zi_eq.mpr (by rw [zcd_int hb (by omega), if_neg d2, d])
        rw [this]; exact h1.2
    · split <;> split <;> omega
  · have : j / 2 = j' / 2 := by omega
    rw [this, if_pos (by omega), if_neg (by omega)]
    omega
theorem zpo_inv : ∀ j, (zpo K e j = (zN, 0)) ∨ ∃ i, i < j ∧ zok K (zcd K i) ∧ (zpo K e j).1 = zcd K i ∧ 0 < (zpo K e j).2
  | 0 => Or.inl rfl
  | j + 1 => by
    rcases Classical.em (zok K (zcd K j) ∧ (zpo K e j).2 < zV K e (zcd K j)) with c | c
    · rw [zpo_y c.1 c.2]
      exact Or.inr ⟨j, by omega, c.1, rfl, zV_pos _⟩
    · rw [zpo_n c]
      rcases zpo_inv j with w | ⟨i, i1, i2, i3, i4⟩
      · exact Or.inl w
      · exact Or.inr ⟨i, by omega, i2, i3, i4⟩
theorem zpo_none {j : Nat} : (zpo K e j = (zN, 0)) → ∀ i, i < j → ¬ zok K (zcd K i) := by
  induction j with
  | zero => intro _ i hi; omega
  | succ j ih =>
    intro h i hi
    rcases Classical.em (zok K (zcd K j) ∧ (zpo K e j).2 < zV K e (zcd K j)) with c | c
    · rw [zpo_y c.1 c.2] at h
      have := congrArg Prod.snd h
      have := zV_pos (K := K) (e := e) (zcd K j)
      simp only at *
      omega
    · rw [zpo_n c] at h
      rcases Nat.lt_or_ge i j with w | w
      · exact ih h i w
      · have : i = j := by omega
        subst this
        intro q
        refine c ⟨q, ?_⟩
        rw [h]; exact zV_pos _
/-- some number beside a key is none -/
theorem zcd_ex (hs : zSrt K) (hb : zKb K) (hl : K.length ≤ 300) (h0 : 0 < K.length) : ∃ j, j < 2 * K.length ∧ zok K (zcd K j) := by
  refine Classical.byContradiction fun hno => ?_
  have hno' : ∀ j, j < 2 * K.length → ¬ zok K (zcd K j) := fun j hj q => hno ⟨j, hj, q⟩
  have b1 : (-999999999 : Int32).toInt = -999999999 := rfl
  have b2 : (999999999 : Int32).toInt = 999999999 := rfl
  have ky : ∀ j, j < 2 * K.length → -999999999 ≤ (zcd K j).toInt → (zcd K j).toInt ≤ 999999999 → ∃ i, i < K.length ∧ zksK K i = zcd K j := fun j hj h1 h2 => by
    have : zcnt (zcd K j) K ≠ 0 := fun q => hno' j hj ⟨by rw [zi_lt, zi_lt, b1, b2]; omega, q⟩
    obtain ⟨q, hq, e1⟩ := zcnt_mem this
    obtain ⟨i, hi, e2⟩ := List.getElem_of_mem hq
    refine ⟨i, hi, ?_⟩
    rw [← e1, ← e2]
    unfold zksK
    rw [List.getD_eq_getElem?_getD, List.getElem?_map, List.getElem?_eq_getElem hi]
    rfl
  have up : ∀ i, i < K.length → (zksK K i).toInt = -999999999 + i := by
    intro i
    induction i with
    | zero =>
      intro hi
      have hbd := zks_bd hb hi
      rcases Int.lt_or_le (-999999999) (zksK K 0).toInt with c | c
      · exfalso
        have e1 := zcd_int hb (show 0 < 2 * K.length by omega)
        rw [if_pos (by decide), show 0 / 2 = 0 from rfl] at e1
        obtain ⟨i, hi, e2⟩ := ky 0 (by omega) (by omega) (by omega)
        rcases Nat.eq_zero_or_pos i with d | d
        · rw [d] at e2
          rw [← e2] at e1; omega
        · have := zks_lt hs d hi
          rw [zi_lt, e2] at this; omega
      · have : (0 : Int) = ((0 : Nat) : Int) := rfl
        omega
    | succ i ih =>
      intro hi
      have e0 := ih (by omega)
      have e1 := zcd_int hb (show 2 * i + 1 < 2 * K.length by omega)
      rw [if_neg (by omega), show (2 * i + 1) / 2 = i by omega, e0] at e1
      obtain ⟨k, hk, e2⟩ := ky (2 * i + 1) (by omega) (by omega) (by omega)
      have hlt := zks_lt hs (show i < i + 1 by omega) hi
      rw [zi_lt, e0] at hlt
      rcases Nat.lt_trichotomy k (i + 1) with d | d | d
      · rcases Nat.lt_or_ge k i with d2 | d2
        · have := zks_lt hs d2 (by omega)
          rw [zi_lt, e2, e0] at this; omega
        · have : k = i := by omega
          rw [this] at e2
          rw [← e2, e0] at e1; omega
      · rw [d] at e2
        rw [e2, e1]; omega
      · have := zks_lt hs d hk
        rw [zi_lt, e2] at this
        omega
  have e0 := up (K.length - 1) (by omega)
  have e1 := zcd_int hb (show 2 * (K.length - 1) + 1 < 2 * K.length by omega)
  rw [if_neg (by omega), show (2 * (K.length - 1) + 1) / 2 = K.length - 1 by omega, e0] at e1
  obtain ⟨k, hk, e2⟩ := ky (2 * (K.length - 1) + 1) (by omega) (by omega) (by omega)
  rcases Nat.lt_or_ge k (K.length - 1) with d | d
  · have := zks_lt hs d (by omega)
    rw [zi_lt, e2, e0] at this; omega
  · have : k = K.length - 1 := by omega
    rw [this] at e2
    rw [← e2, e0] at e1; omega
end ZPQ
