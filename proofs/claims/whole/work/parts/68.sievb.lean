/-! both filters made ready -/
def zksK (K : zKL) : Nat → Int32 := fun i => (K.map (·.1)).getD i 0
/-- x lies in a span -/
def zinS (ks : Nat → Int32) (n : Nat) (wd x : Int32) : Prop := ∃ i, i < n ∧ ((ks i = x ∧ zspan ks n wd i) ∨ (ks i < x ∧ i + 1 < n ∧ x < ks (i + 1) ∧ ¬ wd < ks (i + 1) - ks i))
theorem zks_lt {K : zKL} (hs : zSrt K) {i j : Nat} (h : i < j) (hj : j < K.length) : zksK K i < zksK K j := by
  have hp := List.pairwise_iff_getElem.mp (zSrt_map hs) i j (by simp; omega) (by simp; omega) h
  unfold zksK
  have e1 : (K.map (·.1)).getD i 0 = (K.map (·.1))[i]'(by simp; omega) := by
    rw [List.getD_eq_getElem?_getD, List.getElem?_eq_getElem (by simp; omega)]; rfl
  have e2 : (K.map (·.1)).getD j 0 = (K.map (·.1))[j]'(by simp; omega) := by
    rw [List.getD_eq_getElem?_getD, List.getElem?_eq_getElem (by simp; omega)]; rfl
  rw [e1, e2]; exact hp
theorem zks_mem {K : zKL} {i : Nat} (hi : i < K.length) : ∃ q ∈ K, zksK K i = q.1 := by
  refine ⟨K[i], List.getElem_mem hi, ?_⟩
  unfold zksK
  rw [List.getD_eq_getElem?_getD, List.getElem?_eq_getElem (by simp; exact hi)]
  simp
theorem zks_row {f : Nat → Int32} {K : zKL} (h : zrow f (K.map (·.1))) {i : Nat} (hi : i < K.length) : f i = zksK K i := by
  have hl : i < (K.map (·.1)).length := by simpa using hi
  rw [zrow_sub h hl]
  unfold zksK
  rw [List.getD_eq_getElem?_getD, List.getElem?_eq_getElem hl]; rfl
def zKb (K : zKL) : Prop := ∀ q ∈ K, -999999999 ≤ q.1.toInt ∧ q.1.toInt ≤ 999999999
theorem zks_bd {K : zKL} (hb : zKb K) {i : Nat} (hi : i < K.length) : -999999999 ≤ (zksK K i).toInt ∧ (zksK K i).toInt ≤ 999999999 := by
  obtain ⟨q, hq, e⟩ := zks_mem hi
  rw [e]; exact hb q hq
theorem znear_no {K : zKL} (hs : zSrt K) (hb : zKb K) (i : Nat) : ¬ znear (zksK K) K.length (-1) i := by
  rintro ⟨h1, h2⟩
  apply h2
  have a1 := zks_lt hs (show i < i + 1 by omega) h1
  have a2 := zks_bd hb (show i < K.length by omega)
  have a3 := zks_bd hb h1
  have em : (-1 : Int32).toInt = -1 := rfl
  rw [zi_lt] at a1
  rw [zi_lt, em, zi_sub (by omega) (by omega)]
  omega
theorem zspan_no {K : zKL} (hs : zSrt K) (hb : zKb K) (i : Nat) : ¬ zspan (zksK K) K.length (-1) i := by
  rintro (h | h)
  · exact znear_no hs hb _ h.2
  · exact znear_no hs hb _ h
section ZSB
variable (X : zv_X) {b : Bool} {J : zJ}
theorem zwP178 {I : zI} : zv_wP (zM b I J) 178 3 (some 2) = zM true I J := by
  have : va_up (zP b) 178 (va_up (zP b 178) 3 (some 2)) = zP true := by
    funext a j
    unfold va_up zP
    by_cases h : a = 178
    · subst h
      by_cases h2 : j = 3
      · subst h2; simp
      · simp [h2]
    · simp [h]
  unfold zv_wP zM
  simp only [this]
theorem c_clear {m : Nat} (hm : m ≤ 512) : ∀ (r k : Nat) (I : zI), k + r = m → I 178 1 = Int32.ofNat m → ∃ I', zg_Sieve_ready_62 X 178 (Int32.ofNat k) (zM b I J) = zg_Sieve_ready_85 X 178 0 (zM b I' J) ∧ (∀ c, c ≠ 179 → I' c = I c) ∧ ∀ i, I' 179 i = if k ≤ i ∧ i < m then 0 else I 179 i := by
  intro r
  induction r with
  | zero =>
    intro k I hk h1
    refine ⟨I, ?_, fun c _ => rfl, fun i => by rw [if_neg (by omega)]⟩
    rw [zg_Sieve_ready_62_e, zo178, zM_I, h1, if_pos ((zn_le (by omega) (by omega)).mpr (by omega)), zg_Sieve_ready_83_e]
  | succ r ih =>
    intro k I hk h1
    obtain ⟨I', e1, e2, e3⟩ := ih (k + 1) (zst I 179 k 0) (by omega) (by rw [zst_ne (by decide)]; exact h1)
    refine ⟨I', ?_, fun c hc => by rw [e2 c hc, zst_ne hc], fun i => ?_⟩
    · rw [← e1, zg_Sieve_ready_62_e, zo178, zM_I, h1, if_neg (fun q => absurd ((zn_le (by omega) (by omega)).mp q) (by omega)), zo178, zM_P, zp178_0, zrf, zx179 (by omega), zM_wI, zn_add1]
      rfl
    · rw [e3]
      simp only [zst_at]
      grind
theorem c_ready {I : zI} {K : zKL} {m hs : Nat} {l : Int32} (hk : zKeys I 2 K) (hb : zKb K) (hm : 8 ≤ m ∧ m ≤ 512) (hh : hs ≤ 4) (h5 : I 6 5 = Int32.ofNat m) (h6 : I 6 6 = Int32.ofNat hs) : ∃ I', zg_Sieve_ready_0 X 178 1 l (zM b I J) = some (none, zM true I' J) ∧ zSv I' (zksK K) K.length (if l = 0 then -1 else I 6 7) ∧ I' 178 1 = Int32.ofNat m ∧ I' 178 2 = Int32.ofNat hs ∧ (∀ j, j < m → (I' 179 j = 0 ↔ ¬ zmk (zksK K) hs m (fun i => ¬ zspan (zksK K) K.length (if l = 0 then -1 else I 6 7) i) K.length j)) ∧ ∀ a, a ≠ 178 → a ≠ 179 → I' a = I a := by
  have hlen : ∀ {α : Type} {k : Nat → Option α}, zv_len (zM b I J) 179 k = k 512 := zlen' (a := 179) (t := 3) (n := 512) rfl (by decide)
  generalize hwd : (if l = 0 then -1 else I 6 7) = wd
  obtain ⟨I1, a1, a2, a3⟩ := c_clear X (b := true) (J := J) (m := m) hm.2 m 0 (zst (zst (zst I 178 1 (Int32.ofNat m)) 178 2 (Int32.ofNat hs)) 178 4 wd) (by omega) (by rw [zst_off (by decide), zst_off (by decide), zst_self])
  have fr1 : ∀ a, a ≠ 178 → a ≠ 179 → I1 a = I a := fun a h1 h2 => by rw [a2 a h2, zst_ne h1, zst_ne h1, zst_ne h1]
  have i1 : I1 178 1 = Int32.ofNat m := by rw [a2 178 (by decide), zst_off (by decide), zst_off (by decide), zst_self]
  have i2 : I1 178 2 = Int32.ofNat hs := by rw [a2 178 (by decide), zst_off (by decide), zst_self]
  have i4 : I1 178 4 = wd := by rw [a2 178 (by decide), zst_self]
  have sv : zSv I1 (zksK K) K.length wd := ⟨hk.2.2.2, by rw [fr1 2 (by decide) (by decide)]; exact hk.1, fun i hi => by rw [fr1 3 (by decide) (by decide)]; exact zks_row hk.2.1 hi, i4⟩
  obtain ⟨I2, g1, g2, g3⟩ := c_ready85 X (J := J) (ks := zksK K) (n := K.length) (m := m) (hs := hs) (wd := wd) (fun i hi => zks_bd hb hi) hh ⟨by omega, hm.2⟩ K.length 0 I1 (by omega) sv i1 i2 (fun j hj => by
    rw [a3, if_pos ⟨Nat.zero_le _, hj⟩]
    refine ⟨fun _ => ?_, fun _ => rfl⟩
    rintro ⟨i, hi, -⟩
    omega)
  have g1' : zg_Sieve_ready_85 X 178 0 (zM true I1 J) = _ := g1
  have a1' : zg_Sieve_ready_62 X 178 0 (zM true (zst (zst (zst I 178 1 (Int32.ofNat m)) 178 2 (Int32.ofNat hs)) 178 4 wd) J) = _ := a1
  refine ⟨I2, ?_, ⟨sv.1, by rw [g3 2 (by decide)]; exact sv.2.1, fun i hi => by rw [g3 3 (by decide)]; exact sv.2.2.1 i hi, by rw [g3 178 (by decide)]; exact i4⟩, by rw [g3 178 (by decide)]; exact i1, by rw [g3 178 (by decide)]; exact i2, g2, fun a h1 h2 => by rw [g3 a h2, fr1 a h1 h2]⟩
  have emin : zg_Math_min0_0 X (Int32.ofNat 512) (Int32.ofNat m) (zM b I J) = some (some (.int (Int32.ofNat m)), zM b I J) := by
    rw [s_minN X _ _ _ (by decide) (by omega), show min 512 m = m by omega]
  have emax : zg_Math_max0_0 X 1 (Int32.ofNat m) (zM b I J) = some (some (.int (Int32.ofNat m)), zM b I J) := by
    have := s_maxN X 1 m (zM b I J) (by decide) (by omega)
    rw [show max 1 m = m by omega] at this
    exact this
  have h57 : zg_Sieve_ready_57 X 178 wd 178 (zM true (zst (zst I 178 1 (Int32.ofNat m)) 178 2 (Int32.ofNat hs)) J) = some (none, zM true I2 J) := by
    rw [zg_Sieve_ready_57_e, zo178, zM_wI, a1', g1']
  rw [zg_Sieve_ready_0_e, zo178, zM_P, zp178_0, zrf, hlen, zo1, zp1_3, zrf, zx6_5, zM_I, h5, emin, zci, emax, zci, zo178, zM_wI, zo1, zM_P, zp1_3, zrf, zx6_6, zM_I, zst_ne (by decide), h6, zo178, zM_wI, zo1, zM_P, zp1_0, zrf, zo178, zwP178]
  by_cases c : l = 0
  · rw [if_pos c] at hwd
    rw [if_pos c, zg_Sieve_ready_56_e, hwd, h57]
  · rw [if_neg c] at hwd
    rw [if_neg c, zo1, zM_P, zp1_3, zrf, zx6_7, zM_I, zst_ne (by decide), zst_ne (by decide), hwd, h57]
/-- all marks of x are set -/
def zall (I : zI) (a : Nat) (hs m : Nat) (x : Int32) : Prop := ∀ h, h < hs → I a (zhv x.toInt h m) ≠ 0
theorem c_lets85 {I : zI} {x : Int32} {m hs : Nat} (hx : -999999999 ≤ x.toInt ∧ x.toInt ≤ 999999999) (hh : hs ≤ 4) (hm : 0 < m ∧ m ≤ 512) (h1 : I 178 1 = Int32.ofNat m) (h2 : I 178 2 = Int32.ofNat hs) : ∀ (r h : Nat), h + r = hs → ((∀ k, h ≤ k → k < hs → I 179 (zhv x.toInt k m) ≠ 0) → zg_Sieve_lets_85 X 178 x (Int32.ofNat h) (zM b I J) = some (some (.int 1), zM b I J)) ∧ ((∃ k, h ≤ k ∧ k < hs ∧ I 179 (zhv x.toInt k m) = 0) → zg_Sieve_lets_85 X 178 x (Int32.ofNat h) (zM b I J) = some (some (.int 0), zM b I J)) := by
  intro r
  induction r with
  | zero =>
    intro h hr
    refine ⟨fun _ => ?_, fun ⟨k, k1, k2, _⟩ => by omega⟩
    rw [zg_Sieve_lets_85_e, zo178, zM_I, h2, if_pos ((zn_le (by omega) (by omega)).mpr (by omega)), zg_Sieve_lets_117_e, zrb1]
  | succ r ih =>
    intro h hr
    have hlt := zhv_lt (x := x.toInt) (h := h) hm.1
    obtain ⟨i1, i2⟩ := ih (h + 1) (by omega)
    have st : zg_Sieve_lets_85 X 178 x (Int32.ofNat h) (zM b I J) = if I 179 (zhv x.toInt h m) = 0 then some (some (.int 0), zM b I J) else zg_Sieve_lets_85 X 178 x (Int32.ofNat (h + 1)) (zM b I J) := by
      conv => lhs; rw [zg_Sieve_lets_85_e, zo178, zM_I, h2, if_neg (fun q => absurd ((zn_le (by omega) (by omega)).mp q) (by omega)), zo178, zM_P, zp178_0, zrf, zo178, c_hash X hx (by omega) hm h1, zci, zx179 (by omega), zM_I, zrb0, zg_Sieve_lets_111_e, zn_add1]
    rw [st]
    constructor
    · intro q
      rw [if_neg (q h (Nat.le_refl _) (by omega)), i1 (fun k k1 k2 => q k (by omega) k2)]
    · rintro ⟨k, k1, k2, k3⟩
      by_cases c : I 179 (zhv x.toInt h m) = 0
      · rw [if_pos c]
      · rw [if_neg c]
        apply i2
        rcases Nat.lt_or_ge h k with w | w
        · exact ⟨k, w, k2, k3⟩
        · have : k = h := by omega
          rw [this] at k3; exact absurd k3 c
end ZSB
