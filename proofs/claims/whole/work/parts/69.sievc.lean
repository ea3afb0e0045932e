/-! what passes -/
section ZSC
variable (X : zv_X) {b : Bool} {J : zJ}
/-- where x lies, told by the keys' numbers -/
theorem zinS_key {A B : zKL} {x c wd : Int32} (hs : zSrt (A ++ (x, c) :: B)) : zinS (zksK (A ++ (x, c) :: B)) (A ++ (x, c) :: B).length wd x ↔ zspan (zksK (A ++ (x, c) :: B)) (A ++ (x, c) :: B).length wd A.length := by
  have hl : A.length < (A ++ (x, c) :: B).length := by simp
  have hx : zksK (A ++ (x, c) :: B) A.length = x := by
    unfold zksK
    rw [List.getD_eq_getElem?_getD]; simp
  constructor
  · rintro ⟨i, hi, ⟨h1, h2⟩ | ⟨h1, h2, h3, h4⟩⟩
    · rcases Nat.lt_trichotomy i A.length with w | w | w
      · have := zks_lt hs w hl
        rw [hx, h1] at this; exact absurd this (zi_irr _)
      · rw [w] at h2; exact h2
      · have := zks_lt hs w hi
        rw [hx, h1] at this; exact absurd this (zi_irr _)
    · exfalso
      have w1 : i < A.length := by
        rcases Nat.lt_or_ge i A.length with w | w
        · exact w
        · rcases Nat.lt_or_ge A.length i with w2 | w2
          · have := zks_lt hs w2 hi
            rw [hx] at this
            rw [zi_lt] at *; omega
          · have : i = A.length := by omega
            rw [this, hx] at h1; exact absurd h1 (zi_irr _)
      have w2 : A.length < i + 1 := by
        rcases Nat.lt_or_ge A.length (i + 1) with w | w
        · exact w
        · rcases Nat.lt_or_ge (i + 1) A.length with w2 | w2
          · have := zks_lt hs w2 hl
            rw [hx] at this
            rw [zi_lt] at *; omega
          · have : i + 1 = A.length := by omega
            rw [this, hx] at h3; exact absurd h3 (zi_irr _)
      omega
  · intro h
    exact ⟨A.length, hl, Or.inl ⟨hx, h⟩⟩
theorem zks_app {A B : zKL} {i : Nat} (hi : i < A.length) : ∃ q ∈ A, zksK (A ++ B) i = q.1 := by
  refine ⟨A[i], List.getElem_mem hi, ?_⟩
  unfold zksK
  rw [List.getD_eq_getElem?_getD, List.getElem?_map, List.getElem?_append_left hi, List.getElem?_eq_getElem hi]
  rfl
theorem zks_app2 {A B : zKL} {i : Nat} (hi : A.length ≤ i) (hl : i < (A ++ B).length) : ∃ q ∈ B, zksK (A ++ B) i = q.1 := by
  have h2 : i - A.length < B.length := by rw [List.length_append] at hl; omega
  refine ⟨B[i - A.length], List.getElem_mem h2, ?_⟩
  unfold zksK
  rw [List.getD_eq_getElem?_getD, List.getElem?_map, List.getElem?_append_right hi, List.getElem?_eq_getElem h2]
  rfl
theorem zinS_no {A B : zKL} {x wd : Int32} (h1 : ∀ q ∈ A, q.1 < x) (h2 : ∀ q ∈ B, x < q.1) : zinS (zksK (A ++ B)) (A ++ B).length wd x ↔ (1 ≤ A.length ∧ znear (zksK (A ++ B)) (A ++ B).length wd (A.length - 1)) := by
  have lo : ∀ i, i < A.length → zksK (A ++ B) i < x := fun i hi => by
    obtain ⟨q, hq, e⟩ := zks_app (B := B) hi
    rw [e]; exact h1 q hq
  have hi : ∀ i, A.length ≤ i → i < (A ++ B).length → x < zksK (A ++ B) i := fun i hi hl => by
    obtain ⟨q, hq, e⟩ := zks_app2 hi hl
    rw [e]; exact h2 q hq
  constructor
  · rintro ⟨i, hl, ⟨q1, q2⟩ | ⟨q1, q2, q3, q4⟩⟩
    · exfalso
      rcases Nat.lt_or_ge i A.length with w | w
      · have := lo i w
        rw [q1] at this; exact zi_irr _ this
      · have := hi i w hl
        rw [q1] at this; exact zi_irr _ this
    · have w1 : i < A.length := by
        rcases Nat.lt_or_ge i A.length with w | w
        · exact w
        · have := hi i w hl
          rw [zi_lt] at *; omega
      have w2 : A.length ≤ i + 1 := by
        rcases Nat.lt_or_ge (i + 1) A.length with w | w
        · have := lo (i + 1) w
          rw [zi_lt] at *; omega
        · exact w
      have e : A.length - 1 = i := by omega
      rw [e]
      exact ⟨by omega, q2, q4⟩
  · rintro ⟨q1, q2, q3⟩
    refine ⟨A.length - 1, by omega, Or.inr ⟨lo _ (by omega), q2, hi _ (by omega) q2, q3⟩⟩
theorem c_lets {I : zI} {K : zKL} {m hs : Nat} {wd x : Int32} (hk : zKeys I 2 K) (hsr : zSrt K) (hm : 0 < m ∧ m ≤ 512) (hh : hs ≤ 4) (hsv : zSv I (zksK K) K.length wd) (h1 : I 178 1 = Int32.ofNat m) (h2 : I 178 2 = Int32.ofNat hs) : ((x < -999999999 ∨ 999999999 < x) → zg_Sieve_lets_0 X 178 x (zM true I J) = some (some (.int 0), zM true I J)) ∧ (¬ (x < -999999999 ∨ 999999999 < x) → (zinS (zksK K) K.length wd x ∨ zall I 179 hs m x) → zg_Sieve_lets_0 X 178 x (zM true I J) = some (some (.int 1), zM true I J)) ∧ (¬ (x < -999999999 ∨ 999999999 < x) → ¬ (zinS (zksK K) K.length wd x ∨ zall I 179 hs m x) → zg_Sieve_lets_0 X 178 x (zM true I J) = some (some (.int 0), zM true I J)) := by
  have hcan : zg_GP_canBeKey_0 X x (zM true I J) = some (some (.int (if x < -999999999 ∨ 999999999 < x then 0 else 1)), zM true I J) := by
    simp only [zg_GP_canBeKey_0_e, zg_GP_canBeKey_18_e, zg_GP_canBeKey_19_e]
    by_cases c1 : x < -999999999
    · simp [c1, zrb0]
    · by_cases c2 : 999999999 < x
      · simp [c1, c2, zrb0]
      · simp [c1, c2, zrb1]
  have st : zg_Sieve_lets_0 X 178 x (zM true I J) = if x < -999999999 ∨ 999999999 < x then some (some (.int 0), zM true I J) else zg_Sieve_lets_16 X 178 x (zM true I J) := by
    rw [zg_Sieve_lets_0_e, zo178, zM_P, zp178t, zrf, hcan, zci, zif01, zg_Sieve_lets_14_e, zrb0]
  have hn := hsv.1
  have b1 : (-999999999 : Int32).toInt = -999999999 := rfl
  have b2 : (999999999 : Int32).toInt = 999999999 := rfl
  refine ⟨fun hx => by rw [st, if_pos hx], ?_⟩
  have main : ¬ (x < -999999999 ∨ 999999999 < x) → (zinS (zksK K) K.length wd x → zg_Sieve_lets_16 X 178 x (zM true I J) = some (some (.int 1), zM true I J)) ∧ (¬ zinS (zksK K) K.length wd x → zg_Sieve_lets_16 X 178 x (zM true I J) = zg_Sieve_lets_85 X 178 x 0 (zM true I J)) := fun hx => by
    obtain ⟨A, B, k1, k2, hc⟩ := zways x K hsr
    have k2' : ∀ q ∈ B, ¬ q.1 < x := znlt_of_lt k2
    rcases hc with ⟨hc, -, -⟩ | ⟨c, hc, -, -⟩
    · subst hc
      have hbl := s_below X (J := J) (b := true) (x := x) (zKy_2 true) hk k1 k2'
      have hz := zinS_no (wd := wd) k1 k2
      have hl : (A ++ B).length = A.length + B.length := List.length_append ..
      have e70 : zg_Sieve_lets_16 X 178 x (zM true I J) = zg_Sieve_lets_70 X 178 x (Int32.ofNat A.length) (zM true I J) := by
        rw [zg_Sieve_lets_16_e, zo178, zM_P, zp178t, zrf, zo2, hbl, zci, zo178, zM_P, zp178t, zrf, zo2, zM_I, hsv.2.1, zg_Sieve_lets_53_e, zg_Sieve_lets_54_e, if_pos rfl]
        by_cases c : (A ++ B).length ≤ A.length
        · rw [if_pos ((zn_le (by omega) (by omega)).mpr c)]
        · rw [if_neg (fun q => c ((zn_le (by omega) (by omega)).mp q)), zo178, zrf, zo2, zp2_0, zrf, zx3 (by omega), hsv.2.2.1 _ (by omega), if_neg]
          intro e
          obtain ⟨q, hq, e2⟩ := zks_app2 (A := A) (B := B) (Nat.le_refl _) (by omega)
          have := k2 q hq
          rw [← e2, e] at this
          exact zi_irr _ this
      rcases Nat.eq_zero_or_pos A.length with d | d
      · have e0 : zg_Sieve_lets_70 X 178 x (Int32.ofNat A.length) (zM true I J) = zg_Sieve_lets_85 X 178 x 0 (zM true I J) := by
          rw [d, zg_Sieve_lets_70_e, zo178, zg_Sieve_isNearNext_0_e, if_pos (by decide), zg_Sieve_isNearNext_49_e, zg_Sieve_isNearNext_50_e, zrb0, zci, if_pos rfl, zg_Sieve_lets_82_e]
        refine ⟨fun q => ?_, fun _ => by rw [e70, e0]⟩
        have := (hz.mp q).1
        omega
      · have hnr := c_near X (J := J) (i := A.length - 1) hsv (by omega)
        constructor
        · intro q
          rw [e70, zg_Sieve_lets_70_e, zo178, zn_sub1 d, hnr.1 (hz.mp q).2, zci, if_neg (by decide), zg_Sieve_lets_80_e, zrb1]
        · intro q
          rw [e70, zg_Sieve_lets_70_e, zo178, zn_sub1 d, hnr.2 (fun w => q (hz.mpr ⟨d, w⟩)), zci, if_pos rfl, zg_Sieve_lets_82_e]
    · subst hc
      have hB : ∀ q ∈ (x, c) :: B, ¬ q.1 < x := fun q hq => by
        rcases List.mem_cons.mp hq with rfl | hq
        · exact zi_irr _
        · exact k2' q hq
      have hbl := s_below X (J := J) (b := true) (x := x) (zKy_2 true) hk k1 hB
      have hz := zinS_key (wd := wd) hsr
      have hl : A.length < (A ++ (x, c) :: B).length := by simp
      have hx : zksK (A ++ (x, c) :: B) A.length = x := by
        unfold zksK
        rw [List.getD_eq_getElem?_getD]; simp
      have hsp := c_span X (J := J) (i := A.length) hsv (by omega)
      have e54 : zg_Sieve_lets_16 X 178 x (zM true I J) = zv_ci (zg_Sieve_isInSpan_0 X 178 (Int32.ofNat A.length) (zM true I J)) (fun v2 M1 => if v2 = 0 then zg_Sieve_lets_82 X 178 x M1 else zg_Sieve_lets_80 X M1) := by
        rw [zg_Sieve_lets_16_e, zo178, zM_P, zp178t, zrf, zo2, hbl, zci, zo178, zM_P, zp178t, zrf, zo2, zM_I, hsv.2.1, if_neg (fun q => absurd ((zn_le (by omega) (by omega)).mp q) (by omega)), zo178, zrf, zo2, zp2_0, zrf, zx3 (by omega), hsv.2.2.1 _ hl, hx, if_pos rfl, zg_Sieve_lets_54_e, if_neg (by decide), zo178]
      constructor
      · intro q
        rw [e54, hsp.1 (hz.mp q), zci, if_neg (by decide), zg_Sieve_lets_80_e, zrb1]
      · intro q
        rw [e54, hsp.2 (fun w => q (hz.mpr w)), zci, if_pos rfl, zg_Sieve_lets_82_e]
  have bd : ¬ (x < -999999999 ∨ 999999999 < x) → -999999999 ≤ x.toInt ∧ x.toInt ≤ 999999999 := fun hx => by
    rw [zi_lt, zi_lt, b1, b2] at hx; omega
  constructor
  · intro hx hq
    rw [st, if_neg hx]
    obtain ⟨m1, m2⟩ := main hx
    rcases Classical.em (zinS (zksK K) K.length wd x) with w | w
    · exact m1 w
    · rw [m2 w]
      exact (c_lets85 X (b := true) (J := J) (bd hx) hh hm h1 h2 hs 0 (by omega)).1 (fun k _ k2 => (hq.resolve_left w) k k2)
  · intro hx hq
    rw [st, if_neg hx]
    obtain ⟨m1, m2⟩ := main hx
    rw [m2 (fun w => hq (Or.inl w))]
    apply (c_lets85 X (b := true) (J := J) (bd hx) hh hm h1 h2 hs 0 (by omega)).2
    have : ¬ zall I 179 hs m x := fun w => hq (Or.inr w)
    unfold zall at this
    obtain ⟨k, hk⟩ := Classical.not_forall.mp this
    obtain ⟨k1, k2⟩ := Classical.not_imp.mp hk
    exact ⟨k, Nat.zero_le _, k1, Classical.not_not.mp k2⟩
/-! the reference's filter -/
theorem m_clear : ∀ (r k : Nat) (I : zI), k + r = 512 → ∃ I', (∀ l1 l2, zg_M_setsBits_2 X 181 l1 l2 (Int32.ofNat k) (zM b I J) = zg_M_setsBits_24 X 181 l1 l2 0 (zM b I' J)) ∧ (∀ c, c ≠ 256 → I' c = I c) ∧ ∀ i, I' 256 i = if k ≤ i ∧ i < 512 then 0 else I 256 i := by
  intro r
  induction r with
  | zero =>
    intro k I hk
    refine ⟨I, fun l1 l2 => ?_, fun c _ => rfl, fun i => by rw [if_neg (by omega)]⟩
    rw [zg_M_setsBits_2_e, if_pos ((zkh512 (by omega)).mpr (by omega)), zg_M_setsBits_22_e]
  | succ r ih =>
    intro k I hk
    obtain ⟨I', e1, e2, e3⟩ := ih (k + 1) (zst I 256 k 0) (by omega)
    refine ⟨I', fun l1 l2 => ?_, fun c hc => by rw [e2 c hc, zst_ne hc], fun i => ?_⟩
    · rw [← e1, zg_M_setsBits_2_e, if_neg (fun q => absurd ((zkh512 (by omega)).mp q) (by omega)), zo181, zM_P, zp181_31, zrf, zx256 (by omega), zM_wI, zn_add1]
      rfl
    · rw [e3]
      simp only [zst_at]
      grind
end ZSC
