/-! the object counts the pieces with one more key -/
section ZPW
variable (X : zv_X) {b : Bool} {x : Int32} {K A B : zKL} {e t : Nat}
theorem zks_fb (hb : zKb K) (i : Nat) : -999999999 ≤ (zksK K i).toInt ∧ (zksK K i).toInt ≤ 999999999 := by
  rcases Nat.lt_or_ge i K.length with c | c
  · have := zks_bd hb c
    omega
  · have : zksK K i = 0 := by
      unfold zksK
      rw [List.getD_eq_getElem?_getD, List.getElem?_eq_none (by rw [List.length_map]; exact c)]
      rfl
    rw [this]
    decide
theorem zks_upto (hs : zSrt K) : zupto (fun i => (zksK K i).toInt) K.length := fun i j hij hj => zi_lt.mp (zks_lt hs hij hj)
theorem zfx_fb (hb : zKb K) (hx : -999999999 ≤ x.toInt ∧ x.toInt ≤ 999999999) : zfb (zfx K t x) := fun i => by
  unfold zfx zIn32
  split
  · exact zks_fb hb i
  · split
    · omega
    · exact zks_fb hb _
theorem zfx_1 : ∀ i, i < t → zfx K t x i = (zksK K i).toInt := fun i hi => by
  unfold zfx zIn32
  rw [if_pos hi]
theorem zfx_2 : ∀ i, t ≤ i → zfx K t x (i + 1) = (zksK K i).toInt := fun i hi => by
  unfold zfx zIn32
  rw [if_neg (by omega), if_neg (by omega)]
  rfl
theorem zfx_0 : zfx K t x t = x.toInt := by
  unfold zfx zIn32
  rw [if_neg (by omega), if_pos rfl]
theorem zfx_up (hs : zSrt (A ++ B)) (h1 : ∀ q ∈ A, q.1 < x) (h2 : ∀ q ∈ B, x < q.1) : zupto (zfx (A ++ B) A.length x) ((A ++ B).length + 1) := by
  intro i j hij hj
  have hl : (A ++ B).length = A.length + B.length := List.length_append ..
  have lo : ∀ k, k < A.length → (zksK (A ++ B) k).toInt < x.toInt := fun k hk => by
    obtain ⟨q, hq, e1⟩ := zks_app (B := B) hk
    rw [e1]; exact zi_lt.mp (h1 q hq)
  have hi : ∀ k, A.length ≤ k → k < (A ++ B).length → x.toInt < (zksK (A ++ B) k).toInt := fun k hk hk2 => by
    obtain ⟨q, hq, e1⟩ := zks_app2 hk hk2
    rw [e1]; exact zi_lt.mp (h2 q hq)
  rcases Nat.lt_trichotomy j A.length with c | c | c
  · rw [zfx_1 i (by omega), zfx_1 j c]
    exact zks_upto hs i j hij (by omega)
  · rw [zfx_1 i (by omega), c, zfx_0]
    exact lo i (by omega)
  · obtain ⟨j', rfl⟩ : ∃ j', j = j' + 1 := ⟨j - 1, by omega⟩
    rw [zfx_2 j' (by omega)]
    rcases Nat.lt_trichotomy i A.length with d | d | d
    · rw [zfx_1 i d]
      exact zks_upto hs i j' (by omega) (by omega)
    · rw [d, zfx_0]
      exact hi j' (by omega) (by omega)
    · obtain ⟨i', rfl⟩ : ∃ i', i = i' + 1 := ⟨i - 1, by omega⟩
      rw [zfx_2 i' (by omega)]
      exact zks_upto hs i' j' (by omega) (by omega)
/-- what the count reads -/
def zPW (I : zI) (f fx : Nat → Int) (n e : Nat) : Prop := I 2 2 = Int32.ofNat n ∧ I 6 0 = Int32.ofNat e ∧ (∀ i, i < n + 1 → (I 180 i).toInt = fx i) ∧ I 118 3 = Int32.ofNat (zNp f n e) ∧ ∀ k, k < zNp f n e → I 120 k = Int32.ofNat (zF f n e k)
theorem zPW_fr {I I' : zI} {f fx : Nat → Int} {n e : Nat} (h : zPW I f fx n e) (fr : ∀ a, (a < 111 ∨ 117 < a) → I' a = I a) : zPW I' f fx n e := by
  unfold zPW at *
  rw [fr 2 (by decide), fr 6 (by decide), fr 180 (by decide), fr 118 (by decide), fr 120 (by decide)]
  exact h
section ZPW2
variable {f fx : Nat → Int} {n : Nat} {I : zI} {J : zJ}
theorem c_pw75 {l0 l2 : Nat} (h : zPW I f fx n e) (hn : n ≤ 300) (hu : zupto f n) (ht : t ≤ n) : ∀ m s, s + 1 + m = zNp f n e → (s = 0 ∨ zF f n e s < t) → ∃ s', s' < zNp f n e ∧ (s' = 0 ∨ zF f n e s' < t) ∧ zg_GP_piecesWith_75 X l0 l2 118 (Int32.ofNat t) (Int32.ofNat s) (zM b I J) = zg_GP_piecesWith_106 X l0 l2 118 (Int32.ofNat t) (Int32.ofNat s') (zM b I J) := by
  obtain ⟨g1, g2, g3, g4, g5⟩ := h
  have hP := zNp_half (e := e) hu
  have o118 : ∀ {r : Option zv_R}, zv_ob (zM b I J) 5 118 r = r := zob rfl
  have x120 : ∀ {j : Nat} {k : Nat → Option zv_R}, j < 152 → zv_ix (zM b I J) 0 120 (Int32.ofNat j) k = k j := fun hj => zix (n := 152) rfl hj (by decide)
  have p4 : zP b 118 4 = some 120 := rfl
  intro m
  induction m with
  | zero =>
    intro s hs h0
    refine ⟨s, by omega, h0, ?_⟩
    rw [zg_GP_piecesWith_75_e, o118, zM_I, g4, zn_add1, if_pos ((zn_le (by omega) (by omega)).mpr (by omega))]
  | succ m ih =>
    intro s hs h0
    have hle := zF_le f n e (s + 1)
    by_cases c : t ≤ zF f n e (s + 1)
    · refine ⟨s, by omega, h0, ?_⟩
      rw [zg_GP_piecesWith_75_e, o118, zM_I, g4, zn_add1, if_neg (fun q => absurd ((zn_le (by omega) (by omega)).mp q) (by omega)), o118, zM_P, p4, zrf, x120 (by omega), g5 _ (by omega), if_pos ((zn_le (by omega) (by omega)).mpr c)]
    · obtain ⟨s', i1, i2, i3⟩ := ih (s + 1) (by omega) (Or.inr (by omega))
      refine ⟨s', i1, i2, ?_⟩
      rw [zg_GP_piecesWith_75_e, o118, zM_I, g4, zn_add1, if_neg (fun q => absurd ((zn_le (by omega) (by omega)).mp q) (by omega)), o118, zM_P, p4, zrf, x120 (by omega), g5 _ (by omega), if_neg (fun q => c ((zn_le (by omega) (by omega)).mp q))]
      exact i3
theorem c_pw178 {l0 l2 : Nat} {l6 l8 : Int32} {fr : Nat} (h : zPW I f fx n e) (hn : n ≤ 300) (hu : zupto f n) (hf1 : 1 ≤ fr) (hf2 : fr ≤ 301) : ∀ m s, s + m = zNp f n e → ∃ s', s' ≤ zNp f n e ∧ zg_GP_piecesWith_178 X l0 l2 118 (Int32.ofNat t) (Int32.ofNat s) l6 (Int32.ofNat fr) l8 (zM b I J) = zg_GP_piecesWith_207 X l0 l2 118 (Int32.ofNat t) (Int32.ofNat s') l6 (Int32.ofNat fr) l8 (zM b I J) := by
  obtain ⟨g1, g2, g3, g4, g5⟩ := h
  have hP := zNp_half (e := e) hu
  have o118 : ∀ {r : Option zv_R}, zv_ob (zM b I J) 5 118 r = r := zob rfl
  have x120 : ∀ {j : Nat} {k : Nat → Option zv_R}, j < 152 → zv_ix (zM b I J) 0 120 (Int32.ofNat j) k = k j := fun hj => zix (n := 152) rfl hj (by decide)
  have p4 : zP b 118 4 = some 120 := rfl
  intro m
  induction m with
  | zero =>
    intro s hs
    refine ⟨s, by omega, ?_⟩
    rw [zg_GP_piecesWith_178_e, o118, zM_I, g4, if_pos ((zn_le (by omega) (by omega)).mpr (by omega))]
  | succ m ih =>
    intro s hs
    have hle := zF_le f n e s
    by_cases c : fr - 1 ≤ zF f n e s
    · refine ⟨s, by omega, ?_⟩
      rw [zg_GP_piecesWith_178_e, o118, zM_I, g4, if_neg (fun q => absurd ((zn_le (by omega) (by omega)).mp q) (by omega)), o118, zM_P, p4, zrf, x120 (by omega), g5 _ (by omega), zn_sub1 hf1, if_pos ((zn_le (by omega) (by omega)).mpr c)]
    · obtain ⟨s', i1, i3⟩ := ih (s + 1) (by omega)
      refine ⟨s', i1, ?_⟩
      rw [zg_GP_piecesWith_178_e, o118, zM_I, g4, if_neg (fun q => absurd ((zn_le (by omega) (by omega)).mp q) (by omega)), o118, zM_P, p4, zrf, x120 (by omega), g5 _ (by omega), zn_sub1 hf1, if_neg (fun q => c ((zn_le (by omega) (by omega)).mp q)), zn_add1]
      exact i3
end ZPW2
theorem c_pw122 {f fx : Nat → Int} {n : Nat} (hn : n ≤ 300) (he : e ≤ 20) (hu : zupto f n) (hux : zupto fx (n + 1)) (hfx : zfb fx) (ht : t ≤ n) (h2 : ∀ i, t ≤ i → fx (i + 1) = f i) : ∀ (m p s st : Nat) (I : zI) (J : zJ), st + m = n + 1 → zPW I f fx n e → s ≤ zNp f n e → st ≤ zF fx (n + 1) e p → (∀ j, j < p → zF fx (n + 1) e j < n + 1) → ∃ I' J', zg_GP_piecesWith_122 X 0 2 118 (Int32.ofNat t) (Int32.ofNat s) (Int32.ofNat p) (Int32.ofNat (zF fx (n + 1) e p)) (Int32.ofNat st) (zM b I J) = some (some (.int (Int32.ofNat (zNp fx (n + 1) e))), zM b I' J') ∧ ∀ a, (a < 111 ∨ 117 < a) → I' a = I a ∧ J' a = J a := by
  have hP := zNp_half (e := e) hu
  have p4 : zP b 118 4 = some 120 := rfl
  have p109 : zP b 109 1 = some 111 := rfl
  intro m
  induction m with
  | zero =>
    intro p s st I J hst h hs hle hp
    have hle2 := zF_le fx (n + 1) e p
    refine ⟨I, J, ?_, fun a _ => ⟨rfl, rfl⟩⟩
    rw [zg_GP_piecesWith_122_e, zo2, zM_I, h.1, if_pos ((zn_lt (by omega) (by omega)).mpr (by omega)), zg_GP_piecesWith_254_e, zNp_uniq (N := p) (by omega) hp]
  | succ m ih =>
    intro p s st I J hst h hs hle hp
    have hle2 := zF_le fx (n + 1) e p
    by_cases c : n < zF fx (n + 1) e p
    · refine ⟨I, J, ?_, fun a _ => ⟨rfl, rfl⟩⟩
      rw [zg_GP_piecesWith_122_e, zo2, zM_I, h.1, if_neg (fun q => absurd ((zn_lt (by omega) (by omega)).mp q) (by omega)), zo2, if_pos ((zn_lt (by omega) (by omega)).mpr c), zg_GP_piecesWith_254_e, zNp_uniq (N := p) (by omega) hp]
    · have e1 := zF_succ (f := fx) (n := n + 1) (e := e) (k := p) (by omega)
      generalize hfr : zF fx (n + 1) e p = fr at hle hle2 c e1 ⊢
      obtain ⟨I1, J1, last, r1, r2, r3, r4, -, r6⟩ := c_reach X (b := b) (x := fun i => fx (fr + i)) (e := e) (c := 111) (ar := 180) (N := 301) (fr := fr) (en := n + 1) (I := I) (J := J) (zFt_111 b) rfl (by decide) (Or.inr (by decide)) he (by omega) (by omega) (by omega) (fun i => by have := hfx (fr + i); omega) (fun i j hij hj => hux _ _ (by omega) hj) (fun j hj => h.2.2.1 _ hj)
      have hr : zrch (fun i => fx (fr + i)) e (n + 1 - fr) = last := zrch_uniq (by omega) r3 (r4.imp (fun q => by omega) id)
      rw [hr] at e1
      have h' : zPW I1 f fx n e := zPW_fr h (fun a ha => (r6 a (by omega)).1)
      obtain ⟨s', s1, s2⟩ := c_pw178 X (b := b) (J := J1) (t := t) (l0 := 0) (l2 := 2) (l6 := Int32.ofNat (p + 1)) (l8 := Int32.ofNat st) (fr := fr + last + 1) h' hn hu (by omega) (by omega) (zNp f n e - s) s (by omega)
      have hst' : zg_GP_piecesWith_122 X 0 2 118 (Int32.ofNat t) (Int32.ofNat s) (Int32.ofNat p) (Int32.ofNat fr) (Int32.ofNat st) (zM b I J) = zg_GP_piecesWith_207 X 0 2 118 (Int32.ofNat t) (Int32.ofNat s') (Int32.ofNat (p + 1)) (Int32.ofNat (fr + last + 1)) (Int32.ofNat st) (zM b I1 J1) := by
        rw [zg_GP_piecesWith_122_e, zo2, zM_I, h.1, if_neg (fun q => absurd ((zn_lt (by omega) (by omega)).mp q) (by omega)), zo2, if_neg (fun q => c ((zn_lt (by omega) (by omega)).mp q)), zo0, zM_P, zp0_5, zrf, zo109, p109, zrf, zo0, zp0_7, zrf, zo2, zo0, zp0_0, zrf, zo1, zp1_3, zrf, zx6_0, h.2.1, zo111, zn_add1, r1, zci, zn_add1, zn_add1, s2]
      have hp' : ∀ j, j < p + 1 → zF fx (n + 1) e j < n + 1 := fun j hj => by
        rcases Nat.lt_or_ge j p with w | w
        · exact hp j w
        · have : j = p := by omega
          rw [this, hfr]; omega
      obtain ⟨I2, J2, q1, q2⟩ := ih (p + 1) s' (st + 1) I1 J1 (by omega) h' s1 (by omega) hp'
      rw [e1] at q1
      have go : zg_GP_piecesWith_248 X 0 2 118 (Int32.ofNat t) (Int32.ofNat s') (Int32.ofNat (p + 1)) (Int32.ofNat (fr + last + 1)) (Int32.ofNat st) (zM b I1 J1) = some (some (.int (Int32.ofNat (zNp fx (n + 1) e))), zM b I2 J2) := by
        rw [zg_GP_piecesWith_248_e, zn_add1, q1]
      have fr2 : ∀ a, (a < 111 ∨ 117 < a) → I2 a = I a ∧ J2 a = J a := fun a ha => ⟨((q2 a ha).1).trans (r6 a (by omega)).1, ((q2 a ha).2).trans (r6 a (by omega)).2⟩
      have o118 : ∀ {r : Option zv_R}, zv_ob (zM b I1 J1) 5 118 r = r := zob rfl
      have x120 : ∀ {j : Nat} {k : Nat → Option zv_R}, j < 152 → zv_ix (zM b I1 J1) 0 120 (Int32.ofNat j) k = k j := fun hj => zix (n := 152) rfl hj (by decide)
      rw [hst', zg_GP_piecesWith_207_e]
      by_cases d1 : fr + last + 1 ≤ t
      · rw [if_pos ((zn_le (by omega) (by omega)).mpr d1), go]
        exact ⟨I2, J2, rfl, fr2⟩
      · rw [if_neg (fun q => d1 ((zn_le (by omega) (by omega)).mp q)), o118, zM_I, h'.2.2.2.1]
        by_cases d2 : zNp f n e ≤ s'
        · rw [if_pos ((zn_le (by omega) (by omega)).mpr d2), go]
          exact ⟨I2, J2, rfl, fr2⟩
        · have hle3 := zF_le f n e s'
          rw [if_neg (fun q => d2 ((zn_le (by omega) (by omega)).mp q)), o118, zM_P, p4, zrf, x120 (by omega), h'.2.2.2.2 _ (by omega), zn_sub1 (by omega)]
          by_cases d3 : zF f n e s' = fr + last + 1 - 1
          · rw [if_pos (by rw [d3]), o118]
            refine ⟨I1, J1, ?_, fun a ha => r6 a (by omega)⟩
            have := zNp_suf (f := f) (fx := fx) (n := n) (e := e) (t := t) (p := p + 1) (s := s') h2 (by omega) (by rw [e1]; omega) (by omega)
            rw [zn_add, zn_sub (by omega), this, show p + 1 + zNp f n e - s' = p + 1 + (zNp f n e - s') by omega]
          · rw [if_neg (fun q => d3 ((zn_eq (by omega) (by omega)).mp q)), go]
            exact ⟨I2, J2, rfl, fr2⟩
theorem c_piecesWith {I : zI} {J : zJ} (hk : zKeys I 2 K) (hs : zSrt K) (hb : zKb K) (h0 : 0 < K.length) (he : e ≤ 20) (h6 : I 6 0 = Int32.ofNat e) (hL : zLv I J 118 (fun i => (zksK K i).toInt) K.length e) (hx : ¬ (x < -999999999 ∨ 999999999 < x)) (hc : zcnt x K = 0) (hz : ∀ q ∈ K, q.2 ≠ 0) : ∃ I' J', zg_GP_piecesWith_0 X 0 x (zM b I J) = some (some (.int (Int32.ofNat (zV K e x))), zM b I' J') ∧ ∀ a, (a < 111 ∨ 117 < a) → a ≠ 180 → I' a = I a ∧ J' a = J a := by
  obtain ⟨A, B, k1, k2, hw⟩ := zways x K hs
  replace hw : K = A ++ B := by
    rcases hw with ⟨hw, -, -⟩ | ⟨c, hw, c2, -⟩
    · exact hw
    · rw [hc] at c2
      exact absurd c2.symm (hz (x, c) (by rw [hw]; simp))
  have b1 : (-999999999 : Int32).toInt = -999999999 := rfl
  have b2 : (999999999 : Int32).toInt = 999999999 := rfl
  have hxb : -999999999 ≤ x.toInt ∧ x.toInt ≤ 999999999 := by
    rw [zi_lt, zi_lt, b1, b2] at hx; omega
  have hl3 := hk.2.2.2
  have ht : zltK K x = A.length := by rw [hw]; exact zltK_eq k1 k2
  have hlen : K.length = A.length + B.length := by rw [hw]; exact List.length_append ..
  have hux : zupto (zfx K A.length x) (K.length + 1) := by
    rw [hw]
    exact zfx_up (hw ▸ hs) k1 k2
  have hrow : ∀ i, i < K.length → I 3 i = zksK K i := fun i hi => zks_row hk.2.1 hi
  have hbl : zg_Keys_below_0 X 2 x (zM b I J) = some (some (.int (Int32.ofNat A.length)), zM b I J) := s_below X (zKy_2 b) (hw ▸ hk) k1 (znlt_of_lt k2)
  generalize hI1 : va_up (zst (va_up I 180 (va_cpy (I 3) (I 180) 0 0 A.length)) 180 A.length x) 180 (va_cpy ((zst (va_up I 180 (va_cpy (I 3) (I 180) 0 0 A.length)) 180 A.length x) 3) ((zst (va_up I 180 (va_cpy (I 3) (I 180) 0 0 A.length)) 180 A.length x) 180) A.length (A.length + 1) (K.length - A.length)) = I1
  have fr1 : ∀ a, a ≠ 180 → I1 a = I a := fun a ha => by rw [← hI1, zup_ne ha, zst_ne ha, zup_ne ha]
  have hsp : ∀ i, i < K.length + 1 → (I1 180 i).toInt = zfx K A.length x i := fun i hi => by
    rw [← hI1, zup_same]
    unfold va_cpy
    rcases Nat.lt_trichotomy i A.length with w | w | w
    · rw [if_neg (by omega), zst_off (by omega), zup_same, if_pos (by omega), zfx_1 i w]
      show (I 3 (0 + (i - 0))).toInt = _
      rw [Nat.zero_add, Nat.sub_zero, hrow i (by omega)]
    · rw [if_neg (by omega), w, zst_self, zfx_0]
    · obtain ⟨i', rfl⟩ : ∃ i', i = i' + 1 := ⟨i - 1, by omega⟩
      rw [if_pos (by omega), zst_ne (by decide), zup_ne (by decide), show A.length + (i' + 1 - (A.length + 1)) = i' by omega, hrow i' (by omega), zfx_2 i' (by omega)]
  have hPW : zPW I1 (fun i => (zksK K i).toInt) (zfx K A.length x) K.length e := ⟨by rw [fr1 2 (by decide)]; exact hk.1, by rw [fr1 6 (by decide)]; exact h6, hsp, by rw [fr1 118 (by decide)]; exact hL.2.2.1, fun k hk' => by rw [fr1 120 (by decide)]; exact (hL.2.2.2.2 k hk').1⟩
  have hPp := zNp_pos (f := fun i => (zksK K i).toInt) (e := e) h0
  obtain ⟨s, s1, s2, s3⟩ := c_pw75 X (b := b) (J := J) (t := A.length) (l0 := 0) (l2 := 2) hPW hl3 (zks_upto hs) (by omega) (zNp (fun i => (zksK K i).toInt) K.length e - 1) 0 (by omega) (Or.inl rfl)
  have hpre := zF_pre (fx := zfx K A.length x) (f := fun i => (zksK K i).toInt) (n := K.length) (e := e) (t := A.length) zfx_1 (by omega)
  have hNs := zNp_spec (fun i => (zksK K i).toInt) K.length e
  have hP := zNp_half (e := e) (zks_upto hs)
  obtain ⟨I2, J2, q1, q2⟩ := c_pw122 X (b := b) (t := A.length) hl3 he (zks_upto hs) hux (zfx_fb hb hxb) (by omega) zfx_2 (K.length + 1) s s 0 I1 J (by omega) hPW (by omega) (Nat.zero_le _) (fun j hj => by
    have hjs : zF (zfx K A.length x) (K.length + 1) e j ≤ zF (zfx K A.length x) (K.length + 1) e s := by
      have := zF_wm2 (f := zfx K A.length x) (n := K.length + 1) (e := e) (j := j) (s - j)
      rw [show j + (s - j) = s by omega] at this
      exact this
    rw [hpre s s2] at hjs
    have := zF_le (fun i => (zksK K i).toInt) K.length e s
    omega)
  refine ⟨I2, J2, ?_, fun a ha hn => ⟨((q2 a ha).1).trans (fr1 a hn), (q2 a ha).2⟩⟩
  have o118 : ∀ {r : Option zv_R}, zv_ob (zM b I1 J) 5 118 r = r := zob rfl
  have x120 : ∀ {j : Nat} {k : Nat → Option zv_R}, j < 152 → zv_ix (zM b I1 J) 0 120 (Int32.ofNat j) k = k j := fun hj => zix (n := 152) rfl hj (by decide)
  have p4 : zP b 118 4 = some 120 := rfl
  have hq : ∀ {k : Nat → Option zv_R}, zv_iq (zM b I J) 110 0 k = k 0 := ziq (a := 110) (t := 4) (n := 10) (j := 0) rfl ⟨by decide, by decide⟩ (by decide) (by decide)
  have hp110 : zP b 110 0 = some 118 := rfl
  have hz0 : (Int32.ofNat 0) = 0 := rfl
  rw [hpre s s2] at q1
  have s3' : zg_GP_piecesWith_75 X 0 2 118 (Int32.ofNat A.length) 0 (zM b I1 J) = _ := s3
  have q1' : zg_GP_piecesWith_122 X 0 2 118 (Int32.ofNat A.length) (Int32.ofNat s) (Int32.ofNat s) (Int32.ofNat (zF (fun i => (zksK K i).toInt) K.length e s)) 0 (zM b I1 J) = _ := q1
  unfold zV
  rw [ht, zg_GP_piecesWith_0_e, zo0, zM_P, zp0_0, zrf, zo1, zp1_0, zrf, zo0, zp0_5, zrf, zo109, zp109_0, zrf, hq, hp110, zrf, zo2, hbl, zci, zo2, zM_P, zp2_0, zrf, zo0, zp0_7, zrf]
  rw [zac0 (a := 3) (b' := 180) (n := 300) (n' := 301) rfl rfl (by omega) (by omega) (by decide) (by decide) (by decide), zo0, zM_P, zp0_7, zrf, zx180 (by omega), zM_wI, zo2, zM_P, zp2_0, zrf, zo0, zp0_7, zrf, zo2, zM_I, zst_ne (by decide), zup_ne (by decide), hk.1, zn_add1, zn_sub (by omega)]
  rw [zac (a := 3) (b' := 180) (n := 300) (n' := 301) rfl rfl (by omega) (by omega) (by decide) (by decide) (by decide), hI1, s3', zg_GP_piecesWith_106_e, o118, zM_P, p4, zrf, x120 (by omega), zM_I, hPW.2.2.2.2 _ s1, q1']
end ZPW
