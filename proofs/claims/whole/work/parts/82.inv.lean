/-! THE STATE of both sides: keys, row, told, cost, acts done and undone, gaps, points, boxes -/
abbrev zS : Type := zKL × List Int32 × zTT × Int32 × zKL × zKL × (Nat → Int32) × List (Nat × Nat) × List zBX
abbrev zsK (s : zS) : zKL := s.1
abbrev zsR (s : zS) : List Int32 := s.2.1
abbrev zsT (s : zS) : zTT := s.2.2.1
abbrev zsC (s : zS) : Int32 := s.2.2.2.1
abbrev zsA (s : zS) : zKL := s.2.2.2.2.1
abbrev zsU (s : zS) : zKL := s.2.2.2.2.2.1
abbrev zsG (s : zS) : Nat → Int32 := s.2.2.2.2.2.2.1
abbrev zsP (s : zS) : List (Nat × Nat) := s.2.2.2.2.2.2.2.1
abbrev zsB (s : zS) : List zBX := s.2.2.2.2.2.2.2.2
def zCS (I : zI) (o : Nat) (s : zS) : Prop := zKeys I (2 + o) (zsK s) ∧ I (1 + o) 2 = Int32.ofNat (zsR s).length ∧ zrow (I (5 + o)) (zsR s) ∧ (∀ j, j < 8 → I (6 + o) j = zsT s j) ∧ I (1 + o) 4 = zsC s ∧ zCA I o (zsA s) (zsU s) ∧ zCG I o (zsG s) ∧ zCP I o (zsP s) (zsB s)
def zMS (f : Nat → Int32) (s : zS) : Prop := zMK f (zsK s) (zsR s) ∧ (∀ j, j < 8 → f j = zsT s j) ∧ f 10 = zsC s ∧ zMA f (zsA s) (zsU s) ∧ zMG f (zsG s) ∧ zMP f (zsP s) (zsB s)
def zlo : List Int := [0, 0, 0, 1, 2, 8, 1, 0]
def zhi : List Int := [20, 20, 50, 99, 99, 512, 4, 99999]
def zTok (T : zTT) : Prop := ∀ j, j < 8 → zlo.getD j 0 ≤ (T j).toInt ∧ (T j).toInt ≤ zhi.getD j 0
/-- one act leads from keys to keys -/
def zSp (K : zKL) (q : Int32 × Int32) (K' : zKL) : Prop := zKV K ∧ zKV K' ∧ (q.2 = 1 ∨ q.2 = -1) ∧ K' = zset q.1 (zcnt q.1 K + q.2) K ∧ K = zset q.1 (zcnt q.1 K' - q.2) K' ∧ (zcnt q.1 K = 0 → q.2 = 1) ∧ zcnt q.1 K' = zcnt q.1 K + q.2
def zPth : zKL → zKL → zKL → Prop
  | K, [], K' => K = K'
  | K, q :: L, K' => ∃ K1, zSp K q K1 ∧ zPth K1 L K'
def zOK (s : zS) : Prop := zKV (zsK s) ∧ zRv (zsR s) ∧ (∀ r ∈ zsR s, -999999999 ≤ r.toInt ∧ r.toInt ≤ 999999999) ∧ zTok (zsT s) ∧ (∃ K0, zPth K0 (zsA s) (zsK s)) ∧ (∃ K1, zPth (zsK s) (zsU s) K1) ∧ (zsA s).length + (zsU s).length ≤ 20 ∧ zgs (zsG s) ∧ zPok (zsP s) (zsB s)
/-- all that lasts: the state, its image, the tape and the fault -/
abbrev zST : Type := zS × Option zS × (Nat → Nat) × Nat × Int32 × Int32
def zEe (s : zS) : Nat := (zsT s 0).toInt.toNat
def zEu (s : zS) : Nat := (zsT s 1).toInt.toNat
def zCim (I : zI) (m : Option zS) : Prop := match m with
  | none => I 0 2 = 0
  | some s => I 0 2 = 1 ∧ zCS I 15 s
def zMim (I : zI) (m : Option zS) : Prop := match m with
  | none => I 181 3 = 0
  | some s => I 181 3 = 1 ∧ zMS (I 183) s
def zCI (t : zST) (I : zI) (J : zJ) : Prop := zCS I 0 t.1 ∧ (∃ H, H ≤ 9 ∧ zCov I J 40 (zrf' (zsR t.1)) (zsR t.1).length (zEe t.1) (zEu t.1) H) ∧ zCim I t.2.1 ∧ zTO I t.2.2.1 t.2.2.2.1 ∧ I 31 4 = t.2.2.2.2.1 ∧ I 31 5 = t.2.2.2.2.2
def zMI (t : zST) (I : zI) : Prop := zMS (I 182) t.1 ∧ zMim I t.2.1 ∧ zTMr I t.2.2.1 t.2.2.2.1 ∧ I 181 14 = t.2.2.2.2.1 ∧ I 181 15 = t.2.2.2.2.2
def zOKt (t : zST) : Prop := zOK t.1 ∧ ∀ s, t.2.1 = some s → zOK s
def zInv (t : zST) (I : zI) (J : zJ) : Prop := zOKt t ∧ zCI t I J ∧ zMI t I
theorem zCS_fr {I I' : zI} {o : Nat} {s : zS} (h : ∀ a, 1 + o ≤ a → a ≤ 15 + o → I' a = I a) (hs : zCS I o s) : zCS I' o s := by
  obtain ⟨h1, h2, h3, h4, h5, h6, h7, h8⟩ := hs
  refine ⟨?_, by rw [h (1 + o) (by omega) (by omega)]; exact h2, by rw [h (5 + o) (by omega) (by omega)]; exact h3, by rw [h (6 + o) (by omega) (by omega)]; exact h4, by rw [h (1 + o) (by omega) (by omega)]; exact h5, ?_, ?_, ?_⟩
  · unfold zKeys at *
    rw [h (2 + o) (by omega) (by omega), h (2 + o + 1) (by omega) (by omega), h (2 + o + 2) (by omega) (by omega)]
    exact h1
  · unfold zCA at *
    rw [h (7 + o) (by omega) (by omega), h (8 + o) (by omega) (by omega), h (9 + o) (by omega) (by omega)]
    exact h6
  · unfold zCG at *
    rw [h (11 + o) (by omega) (by omega)]
    exact h7
  · unfold zCP at *
    rw [h (12 + o) (by omega) (by omega), h (13 + o) (by omega) (by omega), h (14 + o) (by omega) (by omega), h (15 + o) (by omega) (by omega)]
    exact h8
theorem zCI_fr {t : zST} {I I' : zI} {J J' : zJ} (h : ∀ a, (a ≤ 32 ∨ (41 ≤ a ∧ a ≤ 108)) → I' a = I a ∧ J' a = J a) (h40 : ∀ j, j ≠ 3 → I' 40 j = I 40 j) (hc : zCI t I J) : zCI t I' J' := by
  obtain ⟨h1, ⟨H, hH, h2⟩, h3, h4, h5, h6⟩ := hc
  refine ⟨zCS_fr (fun a a1 a2 => (h a (by omega)).1) h1, ⟨H, hH, ?_⟩, ?_, zTO_fr h4 (by rw [(h 31 (by omega)).1]) (h 32 (by omega)).1, by rw [(h 31 (by omega)).1]; exact h5, by rw [(h 31 (by omega)).1]; exact h6⟩
  · obtain ⟨c1, c2, c3, c4⟩ := h2
    exact ⟨by rw [h40 2 (by decide)]; exact c1, c2, zLv0_frame c3 (fun a a1 a2 => h a (by omega)), fun l hl => zLv_frame (c4 l hl) (fun a a1 a2 => h a (by omega))⟩
  · cases hm : t.2.1 with
    | none =>
      rw [hm] at h3
      show I' 0 2 = 0
      rw [(h 0 (by omega)).1]; exact h3
    | some s =>
      rw [hm] at h3
      exact ⟨by rw [(h 0 (by omega)).1]; exact h3.1, zCS_fr (fun a a1 a2 => (h a (by omega)).1) h3.2⟩
theorem zMI_fr {t : zST} {I I' : zI} (h1 : I' 182 = I 182) (h2 : I' 183 = I 183) (h3 : I' 187 = I 187) (h4 : I' 181 3 = I 181 3 ∧ I' 181 7 = I 181 7 ∧ I' 181 14 = I 181 14 ∧ I' 181 15 = I 181 15) (hm : zMI t I) : zMI t I' := by
  obtain ⟨m1, m2, m3, m4, m5⟩ := hm
  refine ⟨by rw [h1]; exact m1, ?_, ?_, by rw [h4.2.2.1]; exact m4, by rw [h4.2.2.2]; exact m5⟩
  · cases hq : t.2.1 with
    | none =>
      rw [hq] at m2
      show I' 181 3 = 0
      rw [h4.1]; exact m2
    | some s =>
      rw [hq] at m2
      exact ⟨by rw [h4.1]; exact m2.1, by rw [h2]; exact m2.2⟩
  · unfold zTMr at *
    rw [h4.2.1, h3]; exact m3
theorem zMI_hi {t : zST} {I I' : zI} (h : ∀ a, 181 ≤ a → I' a = I a) (hm : zMI t I) : zMI t I' := zMI_fr (h 182 (by decide)) (h 183 (by decide)) (h 187 (by decide)) ⟨by rw [h 181 (by decide)], by rw [h 181 (by decide)], by rw [h 181 (by decide)], by rw [h 181 (by decide)]⟩ hm
theorem zCI_lo {t : zST} {I I' : zI} {J J' : zJ} (h : ∀ a, a < 181 → I' a = I a ∧ J' a = J a) (hc : zCI t I J) : zCI t I' J' := zCI_fr (fun a ha => h a (by omega)) (fun j _ => by rw [(h 40 (by decide)).1]) hc
theorem zMI_frM {t : zST} {I I' : zI} {J J' : zJ} (h : zfrM I I' J J') (hm : zMI t I) : zMI t I' := zMI_fr (h.2.1 182 (by decide) (by decide)) (h.2.1 183 (by decide) (by decide)) (h.2.1 187 (by decide) (by decide)) ⟨h.2.2 3 (by decide) (by decide), h.2.2 7 (by decide) (by decide), h.2.2 14 (by decide) (by decide), h.2.2 15 (by decide) (by decide)⟩ hm
/-- both sides answer alike, and what lasts lasts on -/
def zkdV (kd : Nat) (v : Value) : Prop := (kd = 0 ∧ ∃ x : Int32, v = .int x) ∨ (kd = 1 ∧ ∃ x : Int64, v = .long x)
def zGoK (kd : Nat) (co mo : zv_M → Option zv_R) : Prop := ∀ (t : zST) (b : Bool) (I : zI) (J : zJ), zInv t I J → ∃ v b' I1 J1 I2 J2 t', zkdV kd v ∧ co (zM b I J) = some (some v, zM b' I1 J1) ∧ mo (zM b' I1 J1) = some (some v, zM b' I2 J2) ∧ zInv t' I2 J2
abbrev zGo (co mo : zv_M → Option zv_R) : Prop := zGoK 0 co mo
theorem zGo_mk {kd : Nat} {co mo : zv_M → Option zv_R} {t t' : zST} {b b' : Bool} {I I1 : zI} {J J1 : zJ} {v : Value} (hi : zInv t I J) (hk : zOKt t') (h1 : co (zM b I J) = some (some v, zM b' I1 J1)) (h2 : zCI t' I1 J1) (h3 : ∀ a, 181 ≤ a → I1 a = I a) (h4 : zMI t I1 → ∃ I2 J2, mo (zM b' I1 J1) = some (some v, zM b' I2 J2) ∧ zMI t' I2 ∧ ∀ a, a < 181 → I2 a = I1 a ∧ J2 a = J1 a) (hv : zkdV kd v := by first | exact Or.inl ⟨rfl, _, rfl⟩ | exact Or.inr ⟨rfl, _, rfl⟩) : ∃ v b' I1 J1 I2 J2 t', zkdV kd v ∧ co (zM b I J) = some (some v, zM b' I1 J1) ∧ mo (zM b' I1 J1) = some (some v, zM b' I2 J2) ∧ zInv t' I2 J2 := by
  obtain ⟨I2, J2, q1, q2, q3⟩ := h4 (zMI_hi h3 hi.2.2)
  exact ⟨v, b', I1, J1, I2, J2, t', hv, h1, q1, hk, zCI_lo q3 h2, q2⟩
/-! what the rows are to levels -/
theorem zrf_fb {R : List Int32} (h : ∀ r ∈ R, -999999999 ≤ r.toInt ∧ r.toInt ≤ 999999999) : zfb (zrf' R) := fun i => by
  show -999999999 ≤ (R.getD i 0).toInt ∧ (R.getD i 0).toInt ≤ 999999999
  rcases Nat.lt_or_ge i R.length with c | c
  · have := h (R[i]) (List.getElem_mem c)
    rw [List.getD_eq_getElem?_getD, List.getElem?_eq_getElem c]
    show -999999999 ≤ (R[i]).toInt ∧ (R[i]).toInt ≤ 999999999
    omega
  · rw [List.getD_eq_getElem?_getD, List.getElem?_eq_none c]
    decide
theorem zrf_up {R : List Int32} (h : R.Pairwise (· < ·)) : zupto (zrf' R) R.length := fun i j hij hj => by
  show (R.getD i 0).toInt < (R.getD j 0).toInt
  rw [List.getD_eq_getElem?_getD, List.getElem?_eq_getElem (show i < R.length by omega), List.getD_eq_getElem?_getD, List.getElem?_eq_getElem hj]
  exact zi_lt.mp (List.pairwise_iff_getElem.mp h i j (by omega) hj hij)
theorem zrow_i {f : Nat → Int32} {R : List Int32} (h : zrow f R) : ∀ i, i < R.length → (f i).toInt = zrf' R i := fun i hi => by
  rw [zrow_lt h hi]
  show _ = (R.getD i 0).toInt
  rw [List.getD_eq_getElem?_getD, List.getElem?_eq_getElem hi]
  rfl
theorem zofN {v : Int32} (h : 0 ≤ v.toInt) : v = Int32.ofNat v.toInt.toNat := by
  have := v.toInt_lt
  rw [zi_eq, zn_int (by omega)]
  omega
section ZIN
variable {s : zS}
theorem zE_e (h : zOK s) : zsT s 0 = Int32.ofNat (zEe s) ∧ zEe s ≤ 20 := by
  have := h.2.2.2.1 0 (by decide)
  have : (0 : Int) ≤ (zsT s 0).toInt ∧ (zsT s 0).toInt ≤ 20 := this
  exact ⟨zofN this.1, by unfold zEe; omega⟩
theorem zE_u (h : zOK s) : zsT s 1 = Int32.ofNat (zEu s) ∧ zEu s ≤ 20 := by
  have := h.2.2.2.1 1 (by decide)
  have : (0 : Int) ≤ (zsT s 1).toInt ∧ (zsT s 1).toInt ≤ 20 := this
  exact ⟨zofN this.1, by unfold zEu; omega⟩
theorem zE_p (h : zOK s) : ∃ p, zsT s 3 = Int32.ofNat p ∧ 1 ≤ p ∧ p ≤ 99 := by
  have := h.2.2.2.1 3 (by decide)
  have : (1 : Int) ≤ (zsT s 3).toInt ∧ (zsT s 3).toInt ≤ 99 := this
  exact ⟨_, zofN (by omega), by omega, by omega⟩
theorem zE_o (h : zOK s) : ∃ p, zsT s 4 = Int32.ofNat p ∧ 2 ≤ p ∧ p ≤ 99 := by
  have := h.2.2.2.1 4 (by decide)
  have : (2 : Int) ≤ (zsT s 4).toInt ∧ (zsT s 4).toInt ≤ 99 := this
  exact ⟨_, zofN (by omega), by omega, by omega⟩
theorem zE_m (h : zOK s) : ∃ p, zsT s 5 = Int32.ofNat p ∧ 8 ≤ p ∧ p ≤ 512 := by
  have := h.2.2.2.1 5 (by decide)
  have : (8 : Int) ≤ (zsT s 5).toInt ∧ (zsT s 5).toInt ≤ 512 := this
  exact ⟨_, zofN (by omega), by omega, by omega⟩
theorem zE_h (h : zOK s) : ∃ p, zsT s 6 = Int32.ofNat p ∧ p ≤ 4 := by
  have := h.2.2.2.1 6 (by decide)
  have : (1 : Int) ≤ (zsT s 6).toInt ∧ (zsT s 6).toInt ≤ 4 := this
  exact ⟨_, zofN (by omega), by omega⟩
theorem zE_rm (h : zOK s) : ∃ p, zsT s 2 = Int32.ofNat p ∧ p ≤ 50 := by
  have := h.2.2.2.1 2 (by decide)
  have : (0 : Int) ≤ (zsT s 2).toInt ∧ (zsT s 2).toInt ≤ 50 := this
  exact ⟨_, zofN (by omega), by omega⟩
theorem zRow_of {I : zI} (h : zOK s) (hm : zMS (I 182) s) : zRow I (zsR s) (zEe s) (zEu s) :=
  ⟨h.2.1.2, hm.1.1, hm.1.2.2.1, by rw [hm.2.1 0 (by decide)]; exact (zE_e h).1, by rw [hm.2.1 1 (by decide)]; exact (zE_u h).1, (zE_e h).2, (zE_u h).2, zrf_fb h.2.2.1, zrf_up h.2.1.1⟩
end ZIN
