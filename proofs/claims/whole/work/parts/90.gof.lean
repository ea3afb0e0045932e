/-! feed -/
def zb8 (y : Int32) : Nat := y.toBitVec.toNat % 256
theorem zb8_lt (y : Int32) : zb8 y < 256 := Nat.mod_lt _ (by decide)
theorem zb8_c (y : Int32) : (zv_nar 2 (zv_i2b y)).toInt = zsg (zb8 y) := by
  have e1 : zv_nar 2 (zv_i2b y) = y.toInt8.toInt32 := by
    unfold zv_nar
    rw [if_pos rfl]
    exact pk_vb y
  rw [e1, Int8.toInt_toInt32, Int32.toInt_toInt8]
  have e2 : y.toInt = Int.bmod y.toBitVec.toNat (2 ^ 32) := BitVec.toInt_eq_toNat_bmod _
  rw [e2, Int.bmod_bmod_of_dvd (by decide), Int.bmod_def]
  unfold zsg zb8
  have e3 : ((y.toBitVec.toNat : Int) % ((2 ^ 8 : Nat) : Int)) = ((y.toBitVec.toNat % 256 : Nat) : Int) := by
    show ((y.toBitVec.toNat : Int) % 256) = _
    omega
  rw [e3]
  have e4 : ((((2 ^ 8 : Nat) : Int) + 1) / 2) = 128 := by decide
  rw [e4]
  have e5 : ((2 ^ 8 : Nat) : Int) = 256 := by decide
  rw [e5]
  split <;> split <;> omega
theorem zb8_m (y : Int32) : y &&& 255 = Int32.ofNat (zb8 y) := by
  have h0 : (y &&& 255).toBitVec.toNat = zb8 y := by
    show (y.toBitVec &&& 255#32).toNat = _
    rw [BitVec.toNat_and]
    exact Nat.and_two_pow_sub_one_eq_mod y.toBitVec.toNat 8
  have hl := zb8_lt y
  rw [zi_eq, zn_int (by omega)]
  have e2 : (y &&& 255).toInt = Int.bmod (y &&& 255).toBitVec.toNat (2 ^ 32) := BitVec.toInt_eq_toNat_bmod _
  rw [e2, h0]
  exact Int.bmod_eq_of_le (by omega) (by omega)
def zsh (i : Nat) : Int32 := if i = 0 then 24 else if i = 1 then 16 else if i = 2 then 8 else if i = 3 then 0 else -8
def zf8 (x : Int32) (i : Nat) : Nat := zb8 (x >>> zsh i)
theorem zc4 {i : Nat} (h : i < 4) : i = 0 ∨ i = 1 ∨ i = 2 ∨ i = 3 := by omega
theorem zsh_s {i : Nat} (h : i < 4) : zsh i + (-8) = zsh (i + 1) ∧ (zsh i &&& 31) = zsh i ∧ ¬ zsh i < 0 := by
  rcases zc4 h with rfl | rfl | rfl | rfl <;> decide
section ZFD2
variable (X : zv_X)
theorem c_add3 {n : Nat} {x : Int32} {b : Bool} {J : zJ} (hn : n + 4 ≤ 600) : ∀ (m i : Nat) (I : zI), i + m = 4 → I 31 1 = Int32.ofNat (n + i) → ∃ I', zg_Teller_addFour_3 X 31 x (zsh i) (zM b I J) = some (none, zM b I' J) ∧ I' 31 1 = Int32.ofNat (n + 4) ∧ (∀ j, j < n + i → I' 32 j = I 32 j) ∧ (∀ j, i ≤ j → j < 4 → (I' 32 (n + j)).toInt = zsg (zf8 x j)) ∧ (∀ a, a ≠ 31 → a ≠ 32 → I' a = I a) ∧ ∀ j, j ≠ 1 → I' 31 j = I 31 j := by
  have e6 : (600 : Int32) = Int32.ofNat 600 := rfl
  intro m
  induction m with
  | zero =>
    intro i I hi h1
    have : i = 4 := by omega
    subst this
    refine ⟨I, ?_, h1, fun _ _ => rfl, fun j _ _ => by omega, fun _ _ _ => rfl, fun _ _ => rfl⟩
    rw [zg_Teller_addFour_3_e, if_pos (by decide), zg_Teller_addFour_46_e]
  | succ m ih =>
    intro i I hi h1
    obtain ⟨s1, s2, s3⟩ := zsh_s (show i < 4 by omega)
    obtain ⟨I', q1, q2, q3, q4, q5, q6⟩ := ih (i + 1) (zst (zst I 32 (n + i) (zv_nar 2 (zv_i2b (x >>> zsh i)))) 31 1 (Int32.ofNat (n + i + 1))) (by omega) (by rw [zst_self]; rfl)
    refine ⟨I', ?_, q2, fun j hj => ?_, fun j j1 j2 => ?_, fun a a1 a2 => by rw [q5 a a1 a2, zst_ne a1, zst_ne a2], fun j hj => by rw [q6 j hj, zst_off hj, zst_ne (by decide)]⟩
    · rw [zg_Teller_addFour_3_e, if_neg s3, zo31, zM_I, h1, e6, if_neg (fun q => absurd ((zn_le (by omega) (by omega)).mp q) (by omega)), zo31, zM_P, zp31_0, zrf, zo31, zx32 (by omega), s2, zM_wI, zo31, zo31, zM_I, zst_ne (by decide), h1, zM_wI, zn_add1, s1, q1]
    · rw [q3 j (by omega), zst_ne (by decide), zst_off (by omega)]
    · rcases Nat.lt_or_ge i j with w | w
      · exact q4 j w j2
      · have : j = i := by omega
        subst this
        rw [q3 (n + j) (by omega), zst_ne (by decide), zst_self, zb8_c]
        rfl
theorem c_add4 {n : Nat} {x : Int32} {b : Bool} {I : zI} {J : zJ} (hn : n + 4 ≤ 600) (h1 : I 31 1 = Int32.ofNat n) : ∃ I', zg_Teller_addFour_0 X 31 x (zM b I J) = some (none, zM b I' J) ∧ I' 31 1 = Int32.ofNat (n + 4) ∧ (∀ j, j < n → I' 32 j = I 32 j) ∧ (∀ j, j < 4 → (I' 32 (n + j)).toInt = zsg (zf8 x j)) ∧ (∀ a, a ≠ 31 → a ≠ 32 → I' a = I a) ∧ ∀ j, j ≠ 1 → I' 31 j = I 31 j := by
  obtain ⟨I', q1, q2, q3, q4, q5, q6⟩ := c_add3 X (n := n) (x := x) (b := b) (J := J) hn 4 0 I rfl h1
  have q1' : zg_Teller_addFour_3 X 31 x 24 (zM b I J) = _ := q1
  exact ⟨I', by rw [zg_Teller_addFour_0_e, q1'], q2, q3, fun j hj => q4 j (Nat.zero_le _) hj, q5, q6⟩
def zsel5 (a c d e f : Int32) (k : Nat) : Int32 := if k < 4 then a else if k < 8 then c else if k < 12 then d else if k < 16 then e else f
def zgf (g : Nat → Nat) (n : Nat) (a c d e f : Int32) : Nat → Nat := fun i => if i < n then g i else zf8 (zsel5 a c d e f (i - n)) ((i - n) % 4)
theorem zshm : ∀ k : Fin 20, ((24 - (8 * (Int32.ofNat k.val - Int32.ofNat k.val / 4 * 4))) &&& 31) = zsh (k.val % 4) := by decide
theorem m_feed18 {n : Nat} {a c d e f : Int32} {b : Bool} {J : zJ} (hn : n + 20 ≤ 600) : ∀ (m k : Nat) (I : zI), k + m = 20 → I 181 7 = Int32.ofNat (n + k) → ∃ I', zg_M_feed_18 X 181 a c d e f (Int32.ofNat k) (zM b I J) = some (some (.int (Int32.ofNat (n + 20))), zM b I' J) ∧ I' 181 7 = Int32.ofNat (n + 20) ∧ (∀ j, j < n + k → I' 187 j = I 187 j) ∧ (∀ j, k ≤ j → j < 20 → I' 187 (n + j) = Int32.ofNat (zf8 (zsel5 a c d e f j) (j % 4))) ∧ (∀ q, q ≠ 181 → q ≠ 187 → I' q = I q) ∧ ∀ j, j ≠ 7 → I' 181 j = I 181 j := by
  intro m
  induction m with
  | zero =>
    intro k I hk h7
    have : k = 20 := by omega
    subst this
    refine ⟨I, ?_, h7, fun _ _ => rfl, fun j _ _ => by omega, fun _ _ _ => rfl, fun _ _ => rfl⟩
    rw [zg_M_feed_18_e, if_pos (by decide), zg_M_feed_115_e, zo181, zM_I, h7]
  | succ m ih =>
    intro k I hk h7
    have st : zg_M_feed_18 X 181 a c d e f (Int32.ofNat k) (zM b I J) = zg_M_feed_71 X 181 a c d e f (Int32.ofNat k) (zsel5 a c d e f k) (zM b I J) := by
      unfold zsel5
      rw [zg_M_feed_18_e, if_neg (fun q => absurd ((zkh20 (by omega)).mp q) (by omega))]
      by_cases c1 : k < 4
      · rw [if_neg (fun q => absurd ((zkh4 (by omega)).mp q) (by omega)), if_pos c1]
      · rw [if_pos ((zkh4 (by omega)).mpr (by omega)), if_neg c1, zg_M_feed_35_e]
        by_cases c2 : k < 8
        · rw [if_neg (fun q => absurd ((zkh8 (by omega)).mp q) (by omega)), if_pos c2]
        · rw [if_pos ((zkh8 (by omega)).mpr (by omega)), if_neg c2, zg_M_feed_46_e]
          by_cases c3 : k < 12
          · rw [if_neg (fun q => absurd ((zkh12 (by omega)).mp q) (by omega)), if_pos c3]
          · rw [if_pos ((zkh12 (by omega)).mpr (by omega)), if_neg c3, zg_M_feed_57_e]
            by_cases c4 : k < 16
            · rw [if_neg (fun q => absurd ((zkh16 (by omega)).mp q) (by omega)), if_pos c4]
            · rw [if_pos ((zkh16 (by omega)).mpr (by omega)), if_neg c4, zg_M_feed_69_e]
    have hsm := zshm ⟨k, by omega⟩
    have hsm' : ((24 - (8 * (Int32.ofNat k - Int32.ofNat k / 4 * 4))) &&& 31) = zsh (k % 4) := hsm
    obtain ⟨I', q1, q2, q3, q4, q5, q6⟩ := ih (k + 1) (zst (zst I 187 (n + k) (Int32.ofNat (zf8 (zsel5 a c d e f k) (k % 4)))) 181 7 (Int32.ofNat (n + k + 1))) (by omega) (by rw [zst_self]; rfl)
    refine ⟨I', ?_, q2, fun j hj => ?_, fun j j1 j2 => ?_, fun p p1 p2 => by rw [q5 p p1 p2, zst_ne p1, zst_ne p2], fun j hj => by rw [q6 j hj, zst_off hj, zst_ne (by decide)]⟩
    · rw [st, zg_M_feed_71_e, zo181, zM_P, zp181_6, zrf, zo181, if_neg (by decide), zM_I, h7, zx187 (by omega), hsm', zb8_m, zM_wI, zo181, zo181, zM_I, zst_ne (by decide), h7, zM_wI, zn_add1, zn_add1]
      exact q1
    · rw [q3 j (by omega), zst_ne (by decide), zst_off (by omega)]
    · rcases Nat.lt_or_ge k j with w | w
      · exact q4 j w j2
      · have : j = k := by omega
        subst this
        rw [q3 (n + j) (by omega), zst_ne (by decide), zst_self]
theorem go_feed (a c d e f : Int32) : zGo (fun M => zg_GP_feed_0 X 0 a c d e f M) (fun M => zg_M_feed_0 X 181 a c d e f M) := fun t b I J hi => by
  obtain ⟨s, img, g, n, fk, fp⟩ := t
  have hTO : zTO I g n := hi.2.1.2.2.2.1
  have hTM : zTMr I g n := hi.2.2.2.2.1
  have h6 := hTO.1
  have e6 : (600 : Int32) = Int32.ofNat 600 := rfl
  by_cases cn : n + 20 ≤ 600
  · obtain ⟨I1, a1, a2, a3, a4, a5, a6⟩ := c_add4 X (n := n) (x := a) (b := b) (J := J) (by omega) hTO.2.1
    obtain ⟨I2, b1, b2, b3, b4, b5, b6⟩ := c_add4 X (n := n + 4) (x := c) (b := b) (J := J) (by omega) a2
    obtain ⟨I3, c1, c2, c3, c4, c5, c6⟩ := c_add4 X (n := n + 4 + 4) (x := d) (b := b) (J := J) (by omega) b2
    obtain ⟨I4, d1, d2, d3, d4, d5, d6⟩ := c_add4 X (n := n + 4 + 4 + 4) (x := e) (b := b) (J := J) (by omega) c2
    obtain ⟨I5, e1, e2, e3, e4, e5, e6'⟩ := c_add4 X (n := n + 4 + 4 + 4 + 4) (x := f) (b := b) (J := J) (by omega) d2
    have fr : ∀ q, q ≠ 31 → q ≠ 32 → I5 q = I q := fun q q1 q2 => by rw [e5 q q1 q2, d5 q q1 q2, c5 q q1 q2, b5 q q1 q2, a5 q q1 q2]
    have f31 : ∀ j, j ≠ 1 → I5 31 j = I 31 j := fun j hj => by rw [e6' j hj, d6 j hj, c6 j hj, b6 j hj, a6 j hj]
    have hTO' : zTO I5 (zgf g n a c d e f) (n + 20) := by
      refine ⟨cn, e2, fun i hi' => ?_⟩
      unfold zgf
      by_cases w : i < n
      · rw [if_pos w, e3 i (by omega), d3 i (by omega), c3 i (by omega), b3 i (by omega), a3 i (by omega)]
        exact hTO.2.2 i w
      · rw [if_neg w]
        obtain ⟨k, rfl⟩ : ∃ k, i = n + k := ⟨i - n, by omega⟩
        rw [show n + k - n = k by omega]
        refine ⟨?_, zb8_lt _⟩
        unfold zsel5
        by_cases w1 : k < 4
        · rw [if_pos w1, show k % 4 = k by omega, e3 _ (by omega), d3 _ (by omega), c3 _ (by omega), b3 _ (by omega)]
          exact a4 k w1
        · rw [if_neg w1]
          by_cases w2 : k < 8
          · rw [if_pos w2, show k % 4 = k - 4 by omega, e3 _ (by omega), d3 _ (by omega), c3 _ (by omega), show n + k = n + 4 + (k - 4) by omega]
            exact b4 (k - 4) (by omega)
          · rw [if_neg w2]
            by_cases w3 : k < 12
            · rw [if_pos w3, show k % 4 = k - 8 by omega, e3 _ (by omega), d3 _ (by omega), show n + k = n + 4 + 4 + (k - 8) by omega]
              exact c4 (k - 8) (by omega)
            · rw [if_neg w3]
              by_cases w4 : k < 16
              · rw [if_pos w4, show k % 4 = k - 12 by omega, e3 _ (by omega), show n + k = n + 4 + 4 + 4 + (k - 12) by omega]
                exact d4 (k - 12) (by omega)
              · rw [if_neg w4, show k % 4 = k - 16 by omega, show n + k = n + 4 + 4 + 4 + 4 + (k - 16) by omega]
                exact e4 (k - 16) (by omega)
    refine zGo_mk hi (t' := (s, img, zgf g n a c d e f, n + 20, fk, fp)) (v := .int (Int32.ofNat (n + 20))) hi.1 (b' := b) (I1 := I5) (J1 := J) ?_ ⟨zCS_fr (fun q _ _ => fr q (by omega) (by omega)) hi.2.1.1, zCov_lo hi.2.1.2.1 (fun q q1 _ => ⟨fr q (by omega) (by omega), rfl⟩), zCim_fr (by rw [fr 0 (by decide) (by decide)]) (fun q _ _ => fr q (by omega) (by omega)) hi.2.1.2.2.1, hTO', by rw [f31 4 (by decide)]; exact hi.2.1.2.2.2.2.1, by rw [f31 5 (by decide)]; exact hi.2.1.2.2.2.2.2⟩ (fun q hq => fr q (by omega) (by omega)) (fun hm => ?_)
    · show zg_GP_feed_0 X 0 a c d e f (zM b I J) = _
      have e2' : I5 31 1 = Int32.ofNat (n + 20) := e2
      rw [zg_GP_feed_0_e, zo0, zM_P, zp0_3, zrf, zo31, zM_I, hTO.2.1, zkb20, e6, if_pos ((zn_le (by omega) (by omega)).mpr cn), zg_GP_feed_18_e, zo0, zM_P, zp0_3, zrf, zo31, a1, zcv, zo0, zM_P, zp0_3, zrf, zo31, b1, zcv, zo0, zM_P, zp0_3, zrf, zo31, c1, zcv, zo0, zM_P, zp0_3, zrf, zo31, d1, zcv, zo0, zM_P, zp0_3, zrf, zo31, e1, zcv, zo0, zM_P, zp0_3, zrf, zo31, zM_I, e2']
    · obtain ⟨m1, m2, m3, m4, m5⟩ := hm
      have m3 : zTMr I5 g n := m3
      obtain ⟨I6, q1, q2, q3, q4, q5, q6⟩ := m_feed18 X (n := n) (a := a) (c := c) (d := d) (e := e) (f := f) (b := b) (J := J) cn 20 0 I5 rfl m3.2.1
      have q1' : zg_M_feed_18 X 181 a c d e f 0 (zM b I5 J) = _ := q1
      have hTM' : zTMr I6 (zgf g n a c d e f) (n + 20) := by
        refine ⟨cn, q2, fun i hi' => ?_⟩
        unfold zgf
        by_cases w : i < n
        · rw [if_pos w, q3 i (by omega)]
          exact m3.2.2 i w
        · rw [if_neg w]
          obtain ⟨k, rfl⟩ : ∃ k, i = n + k := ⟨i - n, by omega⟩
          rw [show n + k - n = k by omega]
          exact ⟨q4 k (Nat.zero_le _) (by omega), zb8_lt _⟩
      refine ⟨I6, J, ?_, ⟨by rw [q5 182 (by decide) (by decide)]; exact m1, ?_, hTM', by rw [q6 14 (by decide)]; exact m4, by rw [q6 15 (by decide)]; exact m5⟩, fun q hq => ⟨q5 q (by omega) (by omega), rfl⟩⟩
      · show zg_M_feed_0 X 181 a c d e f (zM b I5 J) = _
        rw [zg_M_feed_0_e, zo181, zM_I, m3.2.1, zkb20, e6, if_pos ((zn_le (by omega) (by omega)).mpr cn), zg_M_feed_15_e, q1']
      · show zMim I6 img
        have m2 : zMim I5 img := m2
        cases img with
        | none => show _ = _; rw [q6 3 (by decide)]; exact m2
        | some s' => exact ⟨by rw [q6 3 (by decide)]; exact m2.1, by rw [q5 183 (by decide) (by decide)]; exact m2.2⟩
  · refine zGo_r0 hi (v := .int (-1)) ?_ (fun hm => ⟨I, J, ?_, hi.2.2, fun _ _ => ⟨rfl, rfl⟩⟩)
    · show zg_GP_feed_0 X 0 a c d e f (zM b I J) = _
      rw [zg_GP_feed_0_e, zo0, zM_P, zp0_3, zrf, zo31, zM_I, hTO.2.1, zkb20, e6, if_neg (fun q => cn ((zn_le (by omega) (by omega)).mp q))]
    · show zg_M_feed_0 X 181 a c d e f (zM b I J) = _
      rw [zg_M_feed_0_e, zo181, zM_I, hTM.2.1, zkb20, e6, if_neg (fun q => cn ((zn_le (by omega) (by omega)).mp q))]
/-! text -/
theorem zNumK_tok {g : Nat → Nat} {n k k' : Nat} {lo hi : Int32} {cc : Int32 → zOut} {K' : zKL} {T' : zTT} (h : zNumK g n k lo hi cc = .inr (k', K', T')) : ∃ v, ¬ (v < lo ∨ hi < v) ∧ cc v = .inr (k', K', T') := by
  unfold zNumK at h
  split at h
  · split at h
    · cases h
    · exact ⟨_, by assumption, h⟩
  · cases h
theorem zCom_tok {K : zKL} {T : zTT} {x y : Int32} {pl k1 k' : Nat} {K' : zKL} {T' : zTT} (h : zCom K T x y pl k1 = .inr (k', K', T')) : T' = T := by
  unfold zCom at h
  split at h
  · cases h
  · cases h; rfl
theorem zRunO_tok {T : zTT} {pl k1 k' : Nat} {o : Option zKL} {K' : zKL} {T' : zTT} (h : zRunO T pl k1 o = .inr (k', K', T')) : T' = T := by
  unfold zRunO at h
  cases o with
  | none => cases h
  | some K => cases h; rfl
theorem zStm_tok {g : Nat → Nat} {n k k' : Nat} {K K' : zKL} {T T' : zTT} (hk : zk g n k < 10) (hk4 : 4 ≤ zk g n k) (hT : zTok T) (h : zStm g n k K T = .inr (k', K', T')) : zTok T' := by
  unfold zStm at h
  split at h
  · unfold zAKey at h
    obtain ⟨v, -, h2⟩ := zNumK_tok h
    split at h2
    · obtain ⟨v2, -, h3⟩ := zNumK_tok h2
      rw [zCom_tok h3]; exact hT
    · rw [zCom_tok h2]; exact hT
  · split at h
    · unfold zARun at h
      obtain ⟨v, -, h2⟩ := zNumK_tok h
      obtain ⟨v2, -, h3⟩ := zNumK_tok h2
      obtain ⟨v3, -, h4⟩ := zNumK_tok h3
      split at h4
      · cases h4
      · rw [zRunO_tok h4]; exact hT
    · split at h
      · unfold zADrop at h
        obtain ⟨v, -, h2⟩ := zNumK_tok h
        cases h2; exact hT
      · unfold zASet at h
        obtain ⟨v, hv, h2⟩ := zNumK_tok h
        cases h2
        intro j hj
        unfold zTu
        by_cases c : j = zk g n k - 7
        · rw [if_pos c]
          have e0 : (0 : Int32).toInt = 0 := rfl
          have e50 : (50 : Int32).toInt = 50 := rfl
          have e20 : (20 : Int32).toInt = 20 := rfl
          have hw : zk g n k - 7 = 0 ∨ zk g n k - 7 = 1 ∨ zk g n k - 7 = 2 := by omega
          rcases hw with w | w | w
          · rw [w, if_neg (by decide), zi_lt, zi_lt, e0, e20] at hv
            rw [c, w]
            show (0 : Int) ≤ v.toInt ∧ v.toInt ≤ 20
            omega
          · rw [w, if_neg (by decide), zi_lt, zi_lt, e0, e20] at hv
            rw [c, w]
            show (0 : Int) ≤ v.toInt ∧ v.toInt ≤ 20
            omega
          · rw [w, if_pos rfl, zi_lt, zi_lt, e0, e50] at hv
            rw [c, w]
            show (0 : Int) ≤ v.toInt ∧ v.toInt ≤ 50
            omega
        · rw [if_neg c]; exact hT j hj
theorem zTxt_tok {g : Nat → Nat} {n : Nat} {K' : zKL} {T' : zTT} : ∀ (m k : Nat) (K : zKL) (T : zTT), zTok T → zTxt g n m k K T = .inr (K', T') → zTok T'
  | 0, k, K, T, hT, h => by cases h
  | m + 1, k, K, T, hT, h => by
    rw [zTxt] at h
    split at h
    · cases h; exact hT
    · split at h
      · cases h
      · split at h
        · cases h
        · rename_i c0 c1 c2
          cases hs : zStm g n k K T with
          | inl f =>
            rw [hs] at h
            cases h
          | inr p =>
            obtain ⟨k1, K1, T1⟩ := p
            have t1 := zStm_tok (zkd_rng (g := g) (n := n) (zpt g n k)) (by omega) hT hs
            rw [hs] at h
            by_cases d : zk g n k1 = 3
            · rw [zStop_y d] at h
              exact zTxt_tok m (k1 + 1) K1 T1 t1 h
            · rw [zStop_n d] at h
              cases h
theorem go_text : zGo (fun M => zg_GP_text_0 X 0 M) (fun M => zg_M_text_0 X 181 M) := fun t b I J hi => by
  obtain ⟨⟨K, R, T, C, A, U, G, P, B⟩, img, g, n, fk, fp⟩ := t
  have hok := hi.1.1
  obtain ⟨h1, h2, h3, h4, h5, h6, h7, h8, h9⟩ := id hok
  have h1 : zKV K := h1
  have hTO : zTO I g n := hi.2.1.2.2.2.1
  have hk : zKeys I 2 K := hi.2.1.1.1
  have hT6 : ∀ j, j < 8 → I 6 j = T j := hi.2.1.1.2.2.2.1
  obtain ⟨I1, a1, a2, a3, a4⟩ := c_readAll X (b := b) (J := J) hTO hk h1 hT6
  have frI : ∀ q, q ≤ 30 → I1 q = I q := fun q hq => a2 q (by omega) (Or.inl (by omega))
  -- the object once the tape is empty
  have hJ0 : zCJ ((K, R, T, C, A, U, G, P, B), img, g, 0, I1 31 4, I1 31 5) (zst I1 31 1 0) := by
    refine ⟨zCS_fr (fun q _ _ => by rw [zst_ne (by omega), frI q (by omega)]) hi.2.1.1, zCim_fr (by rw [zst_ne (by decide), frI 0 (by decide)]) (fun q _ _ => by rw [zst_ne (by omega), frI q (by omega)]) hi.2.1.2.2.1, ⟨Nat.zero_le _, by rw [zst_self]; rfl, fun i hi' => absurd hi' (Nat.not_lt_zero _)⟩, by rw [zst_off (by decide)], by rw [zst_off (by decide)]⟩
  have st : zg_GP_text_0 X 0 (zM b I J) = if I1 31 4 = 0 then zg_GP_text_31 X 0 (zM b (zst I1 31 1 0) J) else some (some (.int (-1)), zM b (zst I1 31 1 0) J) := by
    rw [zg_GP_text_0_e, zo0, zM_P, zp0_3, zrf, zo0, zp0_0, zrf, zo31, a1, zcv, zo0, zM_P, zp0_3, zrf, zo31, zM_wI, zo0, zM_P, zp0_3, zrf, zo31, zM_I, zst_off (by decide)]
  have frh : ∀ q, 40 ≤ q → I1 q = I q := fun q hq => a2 q (by omega) (Or.inr (by omega))
  have hRr : zRv R := h2
  rcases a4 with ⟨K', T', e1, e2, e3, e4, e5, e6⟩ | ⟨ff, p, e1, e2, e3, e4, e5⟩
  · have hT' := zTxt_tok 61 0 K T h4 e1
    -- keys and told go over
    generalize hI2 : zst I1 31 1 0 = I2 at *
    have g2 : ∀ q, q ≠ 31 → I2 q = I1 q := fun q hq => by rw [← hI2]; exact zst_ne hq
    have k33 : zKeys I2 33 K' := by
      unfold zKeys at *
      rw [g2 33 (by decide), g2 (33 + 1) (by decide), g2 (33 + 2) (by decide)]; exact e2
    obtain ⟨I3, c1, c2, c3⟩ := s_copyKeys X (b := b) (J := J) (I := I2) (a := 2) (a' := 33) (zKy_2 b) (zKy_33 b) (by decide) k33
    have hac : ∀ {I : zI} {kk : zv_M → Option zv_R}, zv_ac (zM b I J) 36 0 6 0 8 0 kk = kk (zM b (va_up I 6 (va_cpy (I 36) (I 6) 0 0 8)) J) := zac0 (a := 36) (b' := 6) (n := 8) (n' := 8) (m := 8) rfl rfl (by decide) (by decide) (by decide) (by decide) (by decide)
    generalize hI4 : va_up I3 6 (va_cpy (I3 36) (I3 6) 0 0 8) = I4
    have g4 : ∀ q, q ≠ 6 → I4 q = I3 q := fun q hq => by rw [← hI4]; exact zup_ne hq
    have t4 : ∀ j, j < 8 → I4 6 j = T' j := fun j hj => by
      rw [← hI4, zup_same]
      unfold va_cpy
      rw [if_pos (by omega), Nat.zero_add, Nat.sub_zero, c3 36 (by decide) (by decide) (by decide), g2 36 (by decide)]
      exact e4 j hj
    have hs3 := zCS_keys hJ0.1 c2 c3
    have hs4 : zCS I4 0 (K', R, T', C, A, U, G, P, B) := by
      obtain ⟨s1, s2, s3, s4, s5, s6, s7, s8⟩ := hs3
      refine ⟨?_, ?_, ?_, t4, ?_, ?_, ?_, ?_⟩
      · show zKeys I4 2 K'
        unfold zKeys at *
        rw [g4 2 (by decide), g4 (2 + 1) (by decide), g4 (2 + 2) (by decide)]; exact s1
      · show I4 1 2 = _
        rw [g4 1 (by decide)]; exact s2
      · show zrow (I4 5) R
        rw [g4 5 (by decide)]; exact s3
      · show I4 1 4 = C
        rw [g4 1 (by decide)]; exact s5
      · show zCA I4 0 A U
        unfold zCA at *
        rw [g4 (7 + 0) (by decide), g4 (8 + 0) (by decide), g4 (9 + 0) (by decide)]; exact s6
      · show zCG I4 0 G
        unfold zCG at *
        rw [g4 (11 + 0) (by decide)]; exact s7
      · show zCP I4 0 P B
        unfold zCP at *
        rw [g4 (12 + 0) (by decide), g4 (13 + 0) (by decide), g4 (14 + 0) (by decide), g4 (15 + 0) (by decide)]; exact s8
    have hJ4 := zCJ_chg hJ0 hs4 (fun q hq => by rw [g4 q (by omega), c3 q (by omega) (by omega) (by omega)])
    obtain ⟨I5, J5, d1, d2, d3, d4⟩ := c_buildAll X (b := b) (J := J) (c_forget2 hJ4) e3 hT'
    rw [e5, e6] at d2
    have hk5 : I5 2 2 = Int32.ofNat K'.length := d2.1.1.1
    have hok' : zOK (K', K'.map (·.1), T', C + Int32.ofNat K'.length, [], [], G, P, B) := by
      obtain ⟨q1, q2⟩ := zRv_own e3
      exact ⟨e3, q1, q2, hT', ⟨K', rfl⟩, ⟨K', rfl⟩, Nat.zero_le _, h8, h9⟩
    have frF : ∀ q, 181 ≤ q → I5 q = I q := fun q hq => by rw [d3 q (by omega), zst_ne (by omega), zst_ne (by omega), g4 q (by omega), c3 q (by omega) (by omega) (by omega), g2 q (by omega), frh q (by omega)]
    refine zGo_mk hi (t' := ((K', K'.map (·.1), T', C + Int32.ofNat K'.length, [], [], G, P, B), img, g, 0, 0, -1)) (v := .int (Int32.ofNat K'.length)) ⟨hok', hi.1.2⟩ (b' := b) (I1 := I5) (J1 := J5) ?_ d2 frF (fun hm => ?_)
    · show zg_GP_text_0 X 0 (zM b I J) = _
      rw [st, if_pos e5, zg_GP_text_31_e, zo0, zM_P, zp0_0, zrf, zo1, zp1_0, zrf, zo0, zp0_3, zrf, zo31, zp31_2, zrf, zo2, c1, zcv, zo0, zM_P, zp0_3, zrf, zo31, zp31_3, zrf, zo0, zp0_0, zrf, zo1, zp1_3, zrf, hac, hI4, zo0, zM_P, zp0_0, zrf, zo1, zp1_5, zrf, zo7, c_forget, zcv, zo0, d1, zcv, zo0, zM_P, zp0_0, zrf, zo1, zp1_0, zrf, zo2, zM_I, hk5]
    · obtain ⟨s1, s2, s3, s4, s5, s6⟩ := hm.1
      obtain ⟨I6, m1, m2, m3, m4⟩ := m_text X (b := b) (J := J5) (I := I5) (T := T) (show zTMr I5 g n from hm.2.2.1) s1 h1 hRr s2
      rcases m4 with ⟨K2, T2, n1, n2, n3, n4, n5, n6, n7, n8, n9, n10, n11⟩ | ⟨f2, p2, n1, -⟩
      · rw [e1] at n1
        cases n1
        refine ⟨I6, J5, n3, ⟨⟨n6, n7, ?_, zMA_nil n9 n10, zMG_fr (fun i hi' => n11 i (by omega)) s5, zMP_fr (fun i hi' => n11 i (by omega)) h9 s6⟩, ?_, ⟨Nat.zero_le _, by rw [m2]; rfl, fun i hi' => absurd hi' (Nat.not_lt_zero _)⟩, n4, n5⟩, fun q hq => ⟨m1 q (by omega), rfl⟩⟩
        · show I6 182 10 = C + Int32.ofNat K'.length
          rw [n8]
          have : I5 182 10 = C := s3
          rw [this]
        · show zMim I6 img
          have m0 : zMim I5 img := hm.2.1
          cases img with
          | none => show _ = _; rw [m3]; exact m0
          | some s' => exact ⟨by rw [m3]; exact m0.1, by rw [m1 183 (by omega)]; exact m0.2⟩
      · rw [e1] at n1; cases n1
  · have nz : ¬ I1 31 4 = 0 := by
      rw [e4]
      exact fun q => absurd ((zke0 (by omega)).mp q) (by omega)
    rw [e4, e5] at hJ0
    have frF : ∀ q, 40 ≤ q → zst I1 31 1 0 q = I q := fun q hq => by rw [zst_ne (by omega), frh q hq]
    refine zGo_mk hi (t' := ((K, R, T, C, A, U, G, P, B), img, g, 0, Int32.ofNat ff, Int32.ofNat p)) (v := .int (-1)) hi.1 (b' := b) (I1 := zst I1 31 1 0) (J1 := J) ?_ ⟨hJ0.1, zCov_lo hi.2.1.2.1 (fun q q1 _ => ⟨frF q q1, rfl⟩), hJ0.2⟩ (fun q hq => frF q (by omega)) (fun hm => ?_)
    · show zg_GP_text_0 X 0 (zM b I J) = _
      rw [st, if_neg nz]
    · obtain ⟨s1, s2, s3, s4, s5, s6⟩ := hm.1
      obtain ⟨I6, m1, m2, m3, m4⟩ := m_text X (b := b) (J := J) (I := zst I1 31 1 0) (T := T) (show zTMr (zst I1 31 1 0) g n from hm.2.2.1) s1 h1 hRr s2
      rcases m4 with ⟨K2, T2, n1, -⟩ | ⟨f2, p2, n1, n2, n3, n4, n5⟩
      · rw [e1] at n1; cases n1
      · rw [e1] at n1
        cases n1
        refine ⟨I6, J, n2, ⟨⟨zMK_fr (fun i hi' => n5 i (by omega)) (zKR_of h1 hRr) s1, fun j hj => by rw [n5 j (by omega)]; exact s2 j hj, by rw [n5 10 (by omega)]; exact s3, zMA_fr (fun i hi' => n5 i (by omega)) h7 s4, fun cc hcc => by rw [n5 _ (by omega), n5 _ (by omega)]; exact s5 cc hcc, zMP_fr (fun i hi' => n5 i (by omega)) h9 s6⟩, ?_, ⟨Nat.zero_le _, by rw [m2]; rfl, fun i hi' => absurd hi' (Nat.not_lt_zero _)⟩, n3, n4⟩, fun q hq => ⟨m1 q (by omega), rfl⟩⟩
        show zMim I6 img
        have m0 : zMim (zst I1 31 1 0) img := hm.2.1
        cases img with
        | none => show _ = _; rw [m3]; exact m0
        | some s' => exact ⟨by rw [m3]; exact m0.1, by rw [m1 183 (by omega)]; exact m0.2⟩
end ZFD2
