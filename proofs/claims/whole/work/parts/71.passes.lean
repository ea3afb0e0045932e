/-! what passes, and how many wrongly -/
theorem zcnt_rng {x : Int32} : ∀ {K : zKL}, (∀ q ∈ K, 1 ≤ q.2.toInt ∧ q.2.toInt ≤ 99) → 0 ≤ (zcnt x K).toInt ∧ (zcnt x K).toInt ≤ 99
  | [], _ => by
    show 0 ≤ (0 : Int32).toInt ∧ (0 : Int32).toInt ≤ 99
    decide
  | q :: K, h => by
    unfold zcnt
    by_cases c : q.1 = x
    · rw [if_pos c]
      have := h q List.mem_cons_self
      omega
    · rw [if_neg c]
      exact zcnt_rng (fun q' hq => h q' (List.mem_cons_of_mem _ hq))
theorem zcnt_le0 {x : Int32} {K : zKL} (h : ∀ q ∈ K, 1 ≤ q.2.toInt ∧ q.2.toInt ≤ 99) : zcnt x K ≤ 0 ↔ zcnt x K = 0 := by
  have := zcnt_rng (x := x) h
  rw [zi_le, zi_eq]
  have e0 : (0 : Int32).toInt = 0 := rfl
  rw [e0]; omega
section ZPS
variable (X : zv_X) {b : Bool} {J : zJ} {I : zI} {K : zKL} {R : List Int32} {m hs : Nat} {wd l x : Int32}
def zPas (K : zKL) (m hs : Nat) (wd l x : Int32) : Prop := ¬ (x < -999999999 ∨ 999999999 < x) ∧ ((¬ l = 0 ∧ zinS (zksK K) K.length wd x) ∨ ∀ h, h < hs → zmk (zksK K) hs m (fun i => l = 0 ∨ ¬ zspan (zksK K) K.length wd i) K.length (zhv x.toInt h m))
noncomputable def zpv (K : zKL) (m hs : Nat) (wd l x : Int32) : Int32 := @ite Int32 (zPas K m hs wd l x) (Classical.propDecidable _) 1 0
theorem zpv_1 (h : zPas K m hs wd l x) : zpv K m hs wd l x = 1 := if_pos h
theorem zpv_0 (h : ¬ zPas K m hs wd l x) : zpv K m hs wd l x = 0 := if_neg h
theorem zmk_iff {ks : Nat → Int32} {s1 s2 : Nat → Prop} {n j : Nat} (h : ∀ i, s1 i ↔ s2 i) : zmk ks hs m s1 n j ↔ zmk ks hs m s2 n j := by
  unfold zmk
  constructor
  · rintro ⟨i, i1, i2, i3⟩; exact ⟨i, i1, (h i).mp i2, i3⟩
  · rintro ⟨i, i1, i2, i3⟩; exact ⟨i, i1, (h i).mpr i2, i3⟩
theorem zsel {i : Nat} (hsr : zSrt K) (hb : zKb K) : ¬ zspan (zksK K) K.length (if l = 0 then -1 else wd) i ↔ (l = 0 ∨ ¬ zspan (zksK K) K.length wd i) := by
  by_cases c : l = 0
  · rw [if_pos c]
    exact ⟨fun _ => Or.inl c, fun _ => zspan_no hsr hb i⟩
  · rw [if_neg c]
    exact ⟨Or.inr, fun q => q.resolve_left c⟩
theorem zinS_l (hsr : zSrt K) (hb : zKb K) : zinS (zksK K) K.length (if l = 0 then -1 else wd) x ↔ (¬ l = 0 ∧ zinS (zksK K) K.length wd x) := by
  by_cases c : l = 0
  · rw [if_pos c]
    refine ⟨?_, fun q => absurd c q.1⟩
    rintro ⟨i, hi, ⟨q1, q2⟩ | ⟨q1, q2, q3, q4⟩⟩
    · exact absurd q2 (zspan_no hsr hb i)
    · exact absurd ⟨q2, q4⟩ (znear_no hsr hb i)
  · rw [if_neg c]
    exact ⟨fun q => ⟨c, q⟩, fun q => q.2⟩
theorem zall_iff {a : Nat} {P : Nat → Prop} (hm : 0 < m) (h : ∀ j, j < m → (I a j = 0 ↔ ¬ P j)) : zall I a hs m x ↔ ∀ k, k < hs → P (zhv x.toInt k m) := by
  unfold zall
  constructor
  · intro q k hk
    have := q k hk
    rw [Ne, h _ (zhv_lt hm)] at this
    exact Classical.not_not.mp this
  · intro q k hk e
    exact (h _ (zhv_lt hm)).mp e (q k hk)
/-- the object's filter once it is ready -/
def zCR (I : zI) (K : zKL) (m hs : Nat) (wd l : Int32) : Prop := zKeys I 2 K ∧ zSv I (zksK K) K.length (if l = 0 then -1 else wd) ∧ I 178 1 = Int32.ofNat m ∧ I 178 2 = Int32.ofNat hs ∧ ∀ j, j < m → (I 179 j = 0 ↔ ¬ zmk (zksK K) hs m (fun i => ¬ zspan (zksK K) K.length (if l = 0 then -1 else wd) i) K.length j)
theorem c_ask (h : zCR I K m hs wd l) (hsr : zSrt K) (hb : zKb K) (hm : 8 ≤ m ∧ m ≤ 512) (hh : hs ≤ 4) : zg_Sieve_lets_0 X 178 x (zM true I J) = some (some (.int (zpv K m hs wd l x)), zM true I J) := by
  obtain ⟨h1, h2, h3, h4, h5⟩ := h
  obtain ⟨p1, p2, p3⟩ := c_lets X (J := J) (x := x) h1 hsr ⟨by omega, hm.2⟩ hh h2 h3 h4
  have e : (zinS (zksK K) K.length (if l = 0 then -1 else wd) x ∨ zall I 179 hs m x) ↔ ((¬ l = 0 ∧ zinS (zksK K) K.length wd x) ∨ ∀ h, h < hs → zmk (zksK K) hs m (fun i => l = 0 ∨ ¬ zspan (zksK K) K.length wd i) K.length (zhv x.toInt h m)) := by
    rw [zinS_l hsr hb, zall_iff (by omega) h5]
    constructor
    · exact fun q => q.imp id (fun q k hk => (zmk_iff (fun i => zsel hsr hb)).mp (q k hk))
    · exact fun q => q.imp id (fun q k hk => (zmk_iff (fun i => zsel hsr hb)).mpr (q k hk))
  by_cases c : x < -999999999 ∨ 999999999 < x
  · rw [p1 c, zpv_0 (fun q => q.1 c)]
  · rcases Classical.em (zPas K m hs wd l x) with w | w
    · rw [p2 c (e.mpr w.2), zpv_1 w]
    · rw [p3 c (fun q => w ⟨c, e.mp q⟩), zpv_0 w]
theorem c_ready2 (hk : zKeys I 2 K) (hb : zKb K) (hm : 8 ≤ m ∧ m ≤ 512) (hh : hs ≤ 4) (h5 : I 6 5 = Int32.ofNat m) (h6 : I 6 6 = Int32.ofNat hs) (h7 : I 6 7 = wd) : ∃ I', zg_Sieve_ready_0 X 178 1 l (zM b I J) = some (none, zM true I' J) ∧ zCR I' K m hs wd l ∧ ∀ a, a ≠ 178 → a ≠ 179 → I' a = I a := by
  obtain ⟨I', g1, g2, g3, g4, g5, g6⟩ := c_ready X (b := b) (J := J) (l := l) hk hb hm hh h5 h6
  rw [h7] at g2 g5
  refine ⟨I', g1, ⟨?_, g2, g3, g4, g5⟩, g6⟩
  unfold zKeys at *
  rw [g6 2 (by decide) (by decide), g6 (2 + 1) (by decide) (by decide), g6 (2 + 2) (by decide) (by decide)]
  exact hk
theorem zrbv : ∀ {v : Int32} {M : zv_M}, v = 0 ∨ v = 1 → zv_rb v M = some (some (.int v), M) := by
  rintro v M (h | h)
  · rw [h, zrb0]
  · rw [h, zrb1]
theorem zpv_01 : zpv K m hs wd l x = 0 ∨ zpv K m hs wd l x = 1 := by
  rcases Classical.em (zPas K m hs wd l x) with w | w
  · exact Or.inr (zpv_1 w)
  · exact Or.inl (zpv_0 w)
theorem c_passes (hk : zKeys I 2 K) (hsr : zSrt K) (hb : zKb K) (hm : 8 ≤ m ∧ m ≤ 512) (hh : hs ≤ 4) (h5 : I 6 5 = Int32.ofNat m) (h6 : I 6 6 = Int32.ofNat hs) (h7 : I 6 7 = wd) : ∃ I', zg_GP_passes_0 X 0 x l (zM b I J) = some (some (.int (zpv K m hs wd l x)), zM true I' J) ∧ ∀ a, a ≠ 178 → a ≠ 179 → I' a = I a := by
  obtain ⟨I', g1, g2, g3⟩ := c_ready2 X (b := b) (J := J) (l := l) hk hb hm hh h5 h6 h7
  refine ⟨I', ?_, g3⟩
  rw [zg_GP_passes_0_e, zo0, zM_P, zp0_6, zrf, zo0, zp0_0, zrf, zo178, g1, zcv, zo0, zM_P, zp0_6, zrf, zo178, c_ask X g2 hsr hb hm hh, zci, zrbv zpv_01]
/-- the reference's filter once it is ready -/
def zMR (I : zI) (K : zKL) (m hs : Nat) (wd l : Int32) : Prop := zMv I (zksK K) K.length m hs wd ∧ (∀ j, j < m → (I 256 j = 0 ↔ ¬ zmk (zksK K) hs m (fun i => l = 0 ∨ ¬ zspan (zksK K) K.length wd i) K.length j)) ∧ ∀ k, k < K.length → (I 257 k = 0 ↔ zspan (zksK K) K.length wd k)
theorem m_ask (h : zMR I K m hs wd l) (hm : 8 ≤ m ∧ m ≤ 512) (hh : hs ≤ 4) : zg_M_isPassed_0 X 181 (Int32.ofNat K.length) x l (zM b I J) = some (some (.int (zpv K m hs wd l x)), zM b I J) := by
  obtain ⟨h1, h2, h3⟩ := h
  obtain ⟨p1, p2, p3⟩ := m_isPassed X (b := b) (J := J) (x := x) (l3 := l) hh ⟨by omega, hm.2⟩ h1 h3
  have e := zall_iff (x := x) (hs := hs) (show 0 < m by omega) h2
  by_cases c : x < -999999999 ∨ 999999999 < x
  · rw [p1 c, zpv_0 (fun q => q.1 c)]
  · rcases Classical.em (zPas K m hs wd l x) with w | w
    · rw [p2 c (w.2.imp id e.mpr), zpv_1 w]
    · rw [p3 c (fun q => w ⟨c, q.imp id e.mp⟩), zpv_0 w]
theorem m_ready2 (h : zMK (I 182) K R) (hr : zKR K R) (hb : zKb K) (hm : 8 ≤ m ∧ m ≤ 512) (hh : hs ≤ 4) (h5 : I 182 5 = Int32.ofNat m) (h6 : I 182 6 = Int32.ofNat hs) (h7 : I 182 7 = wd) : ∃ I1 I', zg_M_laysAll_0 X 181 (zM b I J) = some (some (.int (Int32.ofNat K.length)), zM b I1 J) ∧ zg_M_setsBits_0 X 181 (Int32.ofNat K.length) l (zM b I1 J) = some (none, zM b I' J) ∧ zMR I' K m hs wd l ∧ ∀ a, a ≠ 185 → a ≠ 186 → a ≠ 256 → a ≠ 257 → I' a = I a := by
  obtain ⟨I1, a1, a2, a3, a4⟩ := m_laysAll X (b := b) (J := J) h hr
  have hv : zMv I1 (zksK K) K.length m hs wd := ⟨hr.2.2.1, fun i hi => zks_row a2 hi, by rw [a4 182 (by decide) (by decide)]; exact h5, by rw [a4 182 (by decide) (by decide)]; exact h6, by rw [a4 182 (by decide) (by decide)]; exact h7⟩
  obtain ⟨I2, b1, b2, b3, b4⟩ := m_setsBits X (b := b) (J := J) (l2 := l) (fun i hi => zks_bd hb hi) hh ⟨by omega, hm.2⟩ hv
  refine ⟨I1, I2, a1, b1, ⟨⟨hv.1, fun i hi => by rw [b4 185 (by decide) (by decide)]; exact hv.2.1 i hi, by rw [b4 182 (by decide) (by decide)]; exact hv.2.2.1, by rw [b4 182 (by decide) (by decide)]; exact hv.2.2.2.1, by rw [b4 182 (by decide) (by decide)]; exact hv.2.2.2.2⟩, b2, b3⟩, fun a c1 c2 c3 c4 => by rw [b4 a c3 c4, a4 a c1 c2]⟩
theorem m_passes (h : zMK (I 182) K R) (hr : zKR K R) (hb : zKb K) (hm : 8 ≤ m ∧ m ≤ 512) (hh : hs ≤ 4) (h5 : I 182 5 = Int32.ofNat m) (h6 : I 182 6 = Int32.ofNat hs) (h7 : I 182 7 = wd) : ∃ I', zg_M_passes_0 X 181 x l (zM b I J) = some (some (.int (zpv K m hs wd l x)), zM b I' J) ∧ ∀ a, a ≠ 185 → a ≠ 186 → a ≠ 256 → a ≠ 257 → I' a = I a := by
  obtain ⟨I1, I', a1, a2, a3, a4⟩ := m_ready2 X (b := b) (J := J) (l := l) h hr hb hm hh h5 h6 h7
  refine ⟨I', ?_, a4⟩
  rw [zg_M_passes_0_e, zo181, a1, zci, zo181, a2, zcv, zo181, m_ask X a3 hm hh, zci, zrbv zpv_01]
/-! false ones -/
noncomputable def zfls (K : zKL) (m hs : Nat) (wd l a : Int32) : Nat → Nat
  | 0 => 0
  | k + 1 => zfls K m hs wd l a k + (if zpv K m hs wd l (a + Int32.ofNat k) = 1 ∧ zcnt (a + Int32.ofNat k) K = 0 then 1 else 0)
theorem zfls_s {a : Int32} (k : Nat) : zfls K m hs wd l a (k + 1) = zfls K m hs wd l a k + (if zpv K m hs wd l (a + Int32.ofNat k) = 1 ∧ zcnt (a + Int32.ofNat k) K = 0 then 1 else 0) := rfl
theorem zfls_le {a : Int32} : ∀ k, zfls K m hs wd l a k ≤ k
  | 0 => Nat.le_refl _
  | k + 1 => by
    have := zfls_le (a := a) k
    unfold zfls
    split <;> omega
theorem c_fls45 {a : Int32} {n : Nat} {l4 : Int64} (h : zCR I K m hs wd l) (hsr : zSrt K) (hb : zKb K) (hct : ∀ q ∈ K, 1 ≤ q.2.toInt ∧ q.2.toInt ≤ 99) (hm : 8 ≤ m ∧ m ≤ 512) (hh : hs ≤ 4) (hn : n ≤ 5000) (hl4 : l4.toInt = n) : ∀ r k, k + r = n → zg_GP_falses_45 X 0 a l4 (Int32.ofNat (zfls K m hs wd l a k)) (Int32.ofNat k) (zM true I J) = some (some (.int (Int32.ofNat (zfls K m hs wd l a n))), zM true I J) := by
  intro r
  induction r with
  | zero =>
    intro k hk
    have : k = n := by omega
    subst this
    rw [zg_GP_falses_45_e, if_pos, zg_GP_falses_94_e]
    rw [lg_cmp_ge, zl_le, Int32.toInt_toInt64, zn_int (by omega), hl4]; omega
  | succ r ih =>
    intro k hk
    have hlt : ¬ 0 ≤ lg_cmp (Int32.toInt64 (Int32.ofNat k)) l4 := by
      rw [lg_cmp_ge, zl_le, Int32.toInt_toInt64, zn_int (by omega), hl4]; omega
    have hs' := s_has X (J := J) (x := a + Int32.ofNat k) (zKy_2 true) h.1 hsr
    have ih' := ih (k + 1) (by omega)
    have hz := zcnt_le0 (x := a + Int32.ofNat k) hct
    rw [zfls_s] at ih'
    rw [zg_GP_falses_45_e, if_neg hlt, zo0, zM_P, zp0_6, zrf, zo178, c_ask X h hsr hb hm hh, zci, zo0, zM_P, zp0_0, zrf, zo1, zp1_0, zrf, zo2, hs', zci]
    simp only [zg_GP_falses_88_e]
    rw [zn_add1]
    rcases zpv_01 (K := K) (m := m) (hs := hs) (wd := wd) (l := l) (x := a + Int32.ofNat k) with w | w
    · rw [if_neg (by rw [w]; exact fun q => absurd q.1 (by decide))] at ih'
      rw [w, if_pos rfl]
      exact ih'
    · rw [w] at ih' ⊢
      rw [if_neg (by decide)]
      by_cases c : zcnt (a + Int32.ofNat k) K = 0
      · rw [if_pos ⟨rfl, c⟩] at ih'
        rw [if_pos (hz.mpr c), if_pos rfl, zn_add1]
        exact ih'
      · rw [if_neg (fun q => c q.2)] at ih'
        rw [if_neg (fun q => c (hz.mp q)), if_neg (by decide)]
        exact ih'
noncomputable def zflA (K : zKL) (m hs : Nat) (wd l a c : Int32) : Int32 := if c.toInt < a.toInt ∨ 4999 < c.toInt - a.toInt then -1 else Int32.ofNat (zfls K m hs wd l a (c.toInt - a.toInt + 1).toNat)
theorem c_falses {a c : Int32} (hk : zKeys I 2 K) (hsr : zSrt K) (hb : zKb K) (hct : ∀ q ∈ K, 1 ≤ q.2.toInt ∧ q.2.toInt ≤ 99) (hm : 8 ≤ m ∧ m ≤ 512) (hh : hs ≤ 4) (h5 : I 6 5 = Int32.ofNat m) (h6 : I 6 6 = Int32.ofNat hs) (h7 : I 6 7 = wd) : ∃ b' I', zg_GP_falses_0 X 0 a c l (zM b I J) = some (some (.int (zflA K m hs wd l a c)), zM b' I' J) ∧ ∀ a, a ≠ 178 → a ≠ 179 → I' a = I a := by
  have e1 : (Int32.toInt64 c - Int32.toInt64 a + 1).toInt = c.toInt - a.toInt + 1 := by
    have r1 := zi_rng a
    have r2 := zi_rng c
    have o1 : (1 : Int64).toInt = 1 := rfl
    rw [zl_add (by rw [zrun, o1]; omega) (by rw [zrun, o1]; omega), zrun, o1]
  have o1 : (1 : Int64).toInt = 1 := rfl
  have o5 : (5000 : Int64).toInt = 5000 := rfl
  unfold zflA
  by_cases q : c.toInt < a.toInt ∨ 4999 < c.toInt - a.toInt
  · refine ⟨b, I, ?_, fun _ _ _ => rfl⟩
    rw [if_pos q, zg_GP_falses_0_e, zg_GP_falses_25_e]
    by_cases q1 : c.toInt < a.toInt
    · rw [if_pos (by rw [lg_cmp_lt, zl_lt, e1, o1]; omega)]
    · rw [if_neg (by rw [lg_cmp_lt, zl_lt, e1, o1]; omega), if_neg (by rw [lg_cmp_le, zl_le, e1, o5]; omega)]
  · obtain ⟨I', g1, g2, g3⟩ := c_ready2 X (b := b) (J := J) (l := l) hk hb hm hh h5 h6 h7
    refine ⟨true, I', ?_, g3⟩
    have hN : ((c.toInt - a.toInt + 1).toNat : Int) = c.toInt - a.toInt + 1 := by omega
    have := c_fls45 X (J := J) (a := a) (n := (c.toInt - a.toInt + 1).toNat) (l4 := Int32.toInt64 c - Int32.toInt64 a + 1) g2 hsr hb hct hm hh (by omega) (by rw [e1, hN]) _ 0 (Nat.zero_add _)
    have this' : zg_GP_falses_45 X 0 a (Int32.toInt64 c - Int32.toInt64 a + 1) 0 0 (zM true I' J) = _ := this
    rw [if_neg q, zg_GP_falses_0_e, if_neg (by rw [lg_cmp_lt, zl_lt, e1, o1]; omega), if_pos (by rw [lg_cmp_le, zl_le, e1, o5]; omega), zg_GP_falses_27_e, zo0, zM_P, zp0_6, zrf, zo0, zp0_0, zrf, zo178, g1, zcv, this']
theorem m_fls38 {a c : Int32} {n : Nat} (h : zMR I K m hs wd l) (hk : zMK (I 182) K R) (hr : zKR K R) (hm : 8 ≤ m ∧ m ≤ 512) (hh : hs ≤ 4) (hn : n ≤ 5000) (hc : (c - a).toInt = (n : Int) - 1) : ∀ r k, k + r = n → zg_M_falses_38 X 181 a c l (Int32.ofNat K.length) (Int32.ofNat (zfls K m hs wd l a k)) (Int32.ofNat k) (zM b I J) = some (some (.int (Int32.ofNat (zfls K m hs wd l a n))), zM b I J) := by
  intro r
  induction r with
  | zero =>
    intro k hk'
    have : k = n := by omega
    subst this
    rw [zg_M_falses_38_e, if_pos, zg_M_falses_87_e]
    rw [zi_lt, hc, zn_int (by omega)]; omega
  | succ r ih =>
    intro k hk'
    have hlt : ¬ (c - a) < Int32.ofNat k := by
      rw [zi_lt, hc, zn_int (by omega)]; omega
    have ih' := ih (k + 1) (by omega)
    rw [zfls_s] at ih'
    rw [zg_M_falses_38_e, if_neg hlt, zo181, m_count X hk hr, zci, zo181, m_ask X h hm hh, zci]
    simp only [zg_M_falses_77_e, zg_M_falses_78_e]
    rw [zn_add1]
    by_cases c0 : zcnt (a + Int32.ofNat k) K = 0
    · rw [if_pos c0]
      rcases zpv_01 (K := K) (m := m) (hs := hs) (wd := wd) (l := l) (x := a + Int32.ofNat k) with w | w
      · rw [if_neg (by rw [w]; exact fun q => absurd q.1 (by decide))] at ih'
        rw [w, if_pos rfl, Int32.add_zero]
        exact ih'
      · rw [w] at ih' ⊢
        rw [if_pos ⟨rfl, c0⟩] at ih'
        rw [if_neg (by decide), zn_add1]
        exact ih'
    · rw [if_neg c0, Int32.add_zero]
      rw [if_neg (fun q => c0 q.2)] at ih'
      exact ih'
theorem m_falses {a c : Int32} (h : zMK (I 182) K R) (hr : zKR K R) (hb : zKb K) (hm : 8 ≤ m ∧ m ≤ 512) (hh : hs ≤ 4) (h5 : I 182 5 = Int32.ofNat m) (h6 : I 182 6 = Int32.ofNat hs) (h7 : I 182 7 = wd) : ∃ I', zg_M_falses_0 X 181 a c l (zM b I J) = some (some (.int (zflA K m hs wd l a c)), zM b I' J) ∧ ∀ a, a ≠ 185 → a ≠ 186 → a ≠ 256 → a ≠ 257 → I' a = I a := by
  have o5 : (4999 : Int64).toInt = 4999 := rfl
  unfold zflA
  by_cases q : c.toInt < a.toInt ∨ 4999 < c.toInt - a.toInt
  · refine ⟨I, ?_, fun _ _ _ _ _ => rfl⟩
    rw [if_pos q, zg_M_falses_0_e, zg_M_falses_17_e]
    by_cases q1 : c.toInt < a.toInt
    · rw [if_pos (zi_lt.mpr q1)]
    · rw [if_neg (fun w => q1 (zi_lt.mp w)), if_neg (by rw [lg_cmp_le, zl_le, zrun, o5]; omega)]
  · obtain ⟨I1, I', a1, a2, a3, a4⟩ := m_ready2 X (b := b) (J := J) (l := l) h hr hb hm hh h5 h6 h7
    refine ⟨I', ?_, a4⟩
    have hN : ((c.toInt - a.toInt + 1).toNat : Int) = c.toInt - a.toInt + 1 := by omega
    have hk' : zMK (I' 182) K R := by rw [a4 182 (by decide) (by decide) (by decide) (by decide)]; exact h
    have := m_fls38 X (b := b) (J := J) (a := a) (c := c) (n := (c.toInt - a.toInt + 1).toNat) a3 hk' hr hm hh (by omega) (by rw [zi_sub (by omega) (by omega)]; omega) _ 0 (Nat.zero_add _)
    have this' : zg_M_falses_38 X 181 a c l (Int32.ofNat K.length) 0 0 (zM b I' J) = _ := this
    rw [if_neg q, zg_M_falses_0_e, if_neg (fun w => q (Or.inl (zi_lt.mp w))), if_pos (by rw [lg_cmp_le, zl_le, zrun, o5]; omega), zg_M_falses_19_e, zo181, a1, zci, zo181, a2, zcv, this']
end ZPS
