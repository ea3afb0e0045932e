/-! the longest piece from a place on -/
def zfe (x : Nat → Int) (e k : Nat) : Prop := ∀ i j i' j' : Nat, i < j → j ≤ k → i' < j' → j' ≤ k → ((j : Int) - i - 2 * e) * (x j' - x i') ≤ ((j' : Int) - i' + 2 * e) * (x j - x i)
def zSlp (x : Nat → Int) (e k : Nat) (p q : Int) : Prop := 0 < q ∧ 0 ≤ p ∧ (∀ i j : Nat, i < j → j ≤ k → ((j : Int) - i - 2 * e) * q ≤ p * (x j - x i)) ∧ ((p = 0 ∧ q = 1) ∨ ∃ i j : Nat, i < j ∧ j ≤ k ∧ p = (j : Int) - i - 2 * e ∧ q = x j - x i)
def zuL (e : Nat) : Nat → Int := fun i => (i : Int) + e
def zvL (e : Nat) : Nat → Int := fun i => (i : Int) - e
def zuH (e : Nat) : Nat → Int := fun i => -(i : Int) + e
def zvH (e : Nat) : Nat → Int := fun i => -(i : Int) - e
/-- both sides after k ≥ 1 places -/
def zFS (x : Nat → Int) (e k : Nat) (I : zI) (J : zJ) (c : Nat) : Prop := ∃ hl rl pl ql hh rh ph qh, zSide I J (c + 1) k (hl :: rl) pl ql ∧ zSide I J (c + 4) k (hh :: rh) ph qh ∧ zSI x (zuL e) (zvL e) k k (hl :: rl) pl ql ∧ zSI x (zuH e) (zvH e) k k (hh :: rh) ph qh ∧ ((pl = 0 ∧ ql = 1 ∧ hl = (x 0, zuL e 0)) ∨ zAt x (zuL e) (zvL e) k hl pl ql) ∧ ((ph = 0 ∧ qh = 0) ∨ zAt x (zuH e) (zvH e) k hh ph qh) ∧ 0 < ql ∧ 0 ≤ pl ∧ (J c 2).toInt = pl ∧ (J c 3).toInt = ql ∧ zfe x e (k - 1)
def zFt (b : Bool) (c : Nat) : Prop := zSH[c]? = some (.inr 2) ∧ zP b c 0 = some (c + 1) ∧ zP b c 1 = some (c + 4) ∧ zSd b (c + 1) ∧ zSd b (c + 4)
theorem zFt_42 (b : Bool) : zFt b 42 := ⟨rfl, rfl, rfl, zSd_43 b, zSd_46 b⟩
theorem zFt_111 (b : Bool) : zFt b 111 := ⟨rfl, rfl, rfl, zSd_112 b, zSd_115 b⟩
theorem zAt_mono {x u v : Nat → Int} {m m' : Nat} {h : zPt} {p q : Int} (hm : m ≤ m') (ha : zAt x u v m h p q) : zAt x u v m' h p q := by
  obtain ⟨i, j, h1, h2, h3⟩ := ha
  exact ⟨i, j, h1, by omega, h3⟩
/-- bounds of a slope that a pair gives -/
theorem zAt_bd {x u v : Nat → Int} {m : Nat} {h : zPt} {p q : Int} (hx : ∀ i, -2147483648 ≤ x i ∧ x i ≤ 2147483647) (hu : ∀ i, i < m → -400 ≤ u i ∧ u i ≤ 400 ∧ -400 ≤ v i ∧ v i ≤ 400) (hh : zAt x u v m h p q) : -2000 ≤ p ∧ p ≤ 2000 ∧ q ≤ 5000000000 := by
  obtain ⟨i, j, h1, h2, -, rfl, rfl⟩ := hh
  have := hx i
  have := hx j
  have := hu i (by omega)
  have := hu j h2
  omega
/-- one side over one bottom -/
theorem zside_bot {X : zv_X} {b : Bool} {x u v : Nat → Int} {I : zI} {J : zJ} {a k : Nat} {h : zPt} {r : List zPt} {p q : Int} (hs : zSd b a) (hx : ∀ i j, i < j → j ≤ k → x i < x j) {X0 V0 : Int32} (e1 : X0.toInt = x k) (e2 : V0.toInt = v k) (hv : -1000 ≤ v k ∧ v k ≤ 1000) (hS : zSide I J a k (h :: r) p q) (hp : -2000 ≤ p ∧ p ≤ 2000) (hq : 0 ≤ q ∧ q ≤ 5000000000) (hI : zSI x u v k k (h :: r) p q) : ∃ I' J' h' r' p' q', zg_Side_addBottom_0 X a X0 V0 (zM b I J) = some (none, zM b I' J') ∧ (∀ c, c ≠ a → I' c = I c ∧ J' c = J c) ∧ zSide I' J' a k (h' :: r') p' q' ∧ zSI x u v k (k + 1) (h' :: r') p' q' ∧ 0 < q' ∧ ((h' = h ∧ p' = p ∧ q' = q) ∨ zAt x u v (k + 1) h' p' q') ∧ (0 < q → 0 ≤ p → 0 ≤ p') := by
  obtain ⟨I', J', f1, f2, f3⟩ := c_bottom X (b := b) (x := X0) (v := V0) hs (by rw [e2]; exact hv) hS hp hq
  rw [e1, e2] at f3
  rcases f3 with ⟨g1, g2, g3⟩ | ⟨g1, h', r', g2, g3⟩
  · exact ⟨I', J', h, r, p, q, f1, f2, g3, zSI_bot0 hI (fun i hi => hx i k hi (Nat.le_refl _)) ⟨g1, g2⟩, g1, Or.inl ⟨rfl, rfl, rfl⟩, fun _ h => h⟩
  · obtain ⟨k1, k2, k3, k4⟩ := zSI_bot1 hI hx g1 g2
    refine ⟨I', J', h', r', _, _, f1, f2, g3, k1, k3, Or.inr k2, fun hq0 hp0 => ?_⟩
    have y1 := Int.mul_nonneg hp0 (Int.le_of_lt k3)
    rcases Int.lt_or_le (v k - h'.2) 0 with c | c
    · have := Int.mul_lt_mul_of_pos_right c hq0
      have := k4 hq0
      omega
    · exact c
theorem zfe_mono {x : Nat → Int} {e k k' : Nat} (h : zfe x e k') (hk : k ≤ k') : zfe x e k := fun i j i' j' h1 h2 h3 h4 => h i j i' j' h1 (by omega) h3 (by omega)
section ZFIT
variable (X : zv_X) {b : Bool}
theorem c_fitstep {x : Nat → Int} {e k c ar N fr en : Nat} {I : zI} {J : zJ} {l6 : Int32} (hc : zFt b c) (har : zSH[ar]? = some (.inl (0, N))) (hN : N < 2 ^ 20) (hac : ar < c ∨ c + 6 < ar) (he : e ≤ 20) (hk1 : 1 ≤ k) (hk : fr + k < en) (hen : en ≤ N) (hen2 : en ≤ 301) (hxr : ∀ i, -2147483648 ≤ x i ∧ x i ≤ 2147483647) (hrow : (I ar (fr + k)).toInt = x k) (hx : ∀ i j, i < j → j ≤ k → x i < x j) (hS : zFS x e k I J c) : ∃ I' J', (∀ a, (a < c ∨ c + 6 < a) → I' a = I a ∧ J' a = J a) ∧ ((zfe x e k ∧ zFS x e (k + 1) I' J' c ∧ zg_Fit_reach_36 X c ar (Int32.ofNat fr) (Int32.ofNat e) (Int32.ofNat en) l6 (Int32.ofNat (fr + k)) (zM b I J) = zg_Fit_reach_36 X c ar (Int32.ofNat fr) (Int32.ofNat e) (Int32.ofNat en) (Int32.ofNat (fr + k)) (Int32.ofNat (fr + k + 1)) (zM b I' J')) ∨ (¬ zfe x e k ∧ J' c = J c ∧ zg_Fit_reach_36 X c ar (Int32.ofNat fr) (Int32.ofNat e) (Int32.ofNat en) l6 (Int32.ofNat (fr + k)) (zM b I J) = some (some (.int l6), zM b I' J'))) := by
  obtain ⟨hc0, hc1, hc2, hc3, hc4⟩ := hc
  obtain ⟨hl, rl, pl, ql, hh, rh, ph, qh, s1, s2, s3, s4, s5, s6, s7, s70, s8, s9, s10⟩ := hS
  have uvL : ∀ i, i < k + 1 → -400 ≤ zuL e i ∧ zuL e i ≤ 400 ∧ -400 ≤ zvL e i ∧ zvL e i ≤ 400 := fun i hi => by unfold zuL zvL; omega
  have uvH : ∀ i, i < k + 1 → -400 ≤ zuH e i ∧ zuH e i ≤ 400 ∧ -400 ≤ zvH e i ∧ zvH e i ≤ 400 := fun i hi => by unfold zuH zvH; omega
  have bl : -2000 ≤ pl ∧ pl ≤ 2000 ∧ ql ≤ 5000000000 := by
    rcases s5 with ⟨r1, r2, -⟩ | s5
    · omega
    · exact zAt_bd hxr uvL (zAt_mono (by omega) s5)
  have bh : -2000 ≤ ph ∧ ph ≤ 2000 ∧ qh ≤ 5000000000 := by
    rcases s6 with ⟨r1, r2⟩ | s6
    · omega
    · exact zAt_bd hxr uvH (zAt_mono (by omega) s6)
  have qh0 : 0 ≤ qh := by
    obtain ⟨_, _, -, -, -, -, q0, -⟩ := s4
    exact q0
  have hsub : Int32.ofNat (fr + k) - Int32.ofNat fr = Int32.ofNat k := by
    rw [zn_sub (by omega), Nat.add_sub_cancel_left]
  have ik : (Int32.ofNat k).toInt = k := zn_int (by omega)
  have ie : (Int32.ofNat e).toInt = e := zn_int (by omega)
  have v1 : (Int32.ofNat k - Int32.ofNat e).toInt = zvL e k := by
    rw [zi_sub (by omega) (by omega), ik, ie]; rfl
  have v2 : (Int32.ofNat k + Int32.ofNat e).toInt = zuL e k := by
    rw [zi_add (by omega) (by omega), ik, ie]; rfl
  have ineg : (-Int32.ofNat k).toInt = -(k : Int) := by rw [zi_neg (by omega), ik]
  have v3 : (-Int32.ofNat k - Int32.ofNat e).toInt = zvH e k := by
    rw [zi_sub (by omega) (by omega), ineg, ie]; rfl
  have v4 : (-Int32.ofNat k + Int32.ofNat e).toInt = zuH e k := by
    rw [zi_add (by omega) (by omega), ineg, ie]; rfl
  have tL := uvL k (by omega)
  have tH := uvH k (by omega)
  -- low: bottom, top
  obtain ⟨I1, J1, h1, r1, p1, q1, a1, a2, a3, a4, a5, a6, a7⟩ := zside_bot (X := X) hc3 hx hrow v1 (by omega) s1 ⟨bl.1, bl.2.1⟩ ⟨by omega, bl.2.2⟩ s3
  obtain ⟨I2, b1, b2, b3⟩ := c_top X (b := b) (x := I ar (fr + k)) hc3 (by rw [v2]; omega) a3 (by omega)
  rw [hrow, v2] at b3
  -- high: bottom, top
  have s2' : zSide I2 J1 (c + 4) k (hh :: rh) ph qh := by
    obtain ⟨st, t1, t2, t3, t4, t5, t6, t7, t8⟩ := s2
    have g : ∀ a, c + 4 ≤ a → I2 a = I a := fun a ha => by rw [b2 a (by omega) (by omega) (by omega), (a2 a (by omega)).1]
    exact ⟨st, by rw [g _ (by omega)]; exact t1, by rw [g _ (by omega)]; exact t2, fun i w hw => by rw [g _ (by omega), g _ (by omega)]; exact t3 i w hw, t4, t5, by rw [(a2 (c + 4) (by omega)).2]; exact t6, by rw [(a2 (c + 4) (by omega)).2]; exact t7, t8⟩
  obtain ⟨I3, J3, h3, r3, p3, q3, d1, d2, d3, d4, d5, d6, d7⟩ := zside_bot (X := X) hc4 hx hrow v3 (by omega) s2' ⟨bh.1, bh.2.1⟩ ⟨qh0, bh.2.2⟩ s4
  obtain ⟨I4, g1, g2, g3⟩ := c_top X (b := b) (x := I ar (fr + k)) hc4 (by rw [v4]; omega) d3 (by omega)
  rw [hrow, v4] at g3
  have fI : ∀ a, (a < c ∨ c + 6 < a) → I4 a = I a := fun a ha => by
    rw [g2 a (by omega) (by omega) (by omega), (d2 a (by omega)).1, b2 a (by omega) (by omega) (by omega), (a2 a (by omega)).1]
  have fJ : ∀ a, a ≠ c + 1 → a ≠ c + 4 → J3 a = J a := fun a h1 h2 => by
    rw [(d2 a h2).2, (a2 a h1).2]
  have jl : J3 (c + 1) = J1 (c + 1) := (d2 (c + 1) (by omega)).2
  have eP1 : (J3 (c + 1) 4).toInt = p1 ∧ (J3 (c + 1) 5).toInt = q1 := by
    obtain ⟨_, -, -, -, -, -, t6, t7, -⟩ := a3
    rw [jl]; exact ⟨t6, t7⟩
  have eP3 : (J3 (c + 4) 4).toInt = p3 ∧ (J3 (c + 4) 5).toInt = q3 := by
    obtain ⟨_, -, -, -, -, -, t6, t7, -⟩ := d3
    exact ⟨t6, t7⟩
  have bl' : -2000 ≤ p1 ∧ p1 ≤ 2000 ∧ q1 ≤ 5000000000 := by
    rcases a6 with ⟨-, r1, r2⟩ | a6
    · rw [r1, r2]; exact bl
    · exact zAt_bd hxr uvL a6
  have bh' : -2000 ≤ p3 ∧ p3 ≤ 2000 ∧ q3 ≤ 5000000000 := by
    rcases d6 with ⟨-, r1, r2⟩ | d6
    · rw [r1, r2]; exact bh
    · exact zAt_bd hxr uvH d6
  have e00 : (0 : Int64).toInt = 0 := rfl
  have atL : (p1 = 0 ∧ q1 = 1 ∧ h1 = (x 0, zuL e 0)) ∨ zAt x (zuL e) (zvL e) (k + 1) h1 p1 q1 := by
    rcases a6 with ⟨r0, r1, r2⟩ | a6
    · rw [r0, r1, r2]
      rcases s5 with s5 | s5
      · exact Or.inl s5
      · exact Or.inr (zAt_mono (by omega) s5)
    · exact Or.inr a6
  have atH : zAt x (zuH e) (zvH e) (k + 1) h3 p3 q3 := by
    rcases d6 with ⟨r0, r1, r2⟩ | d6
    · rw [r0, r1, r2]
      rcases s6 with ⟨_, s6⟩ | s6
      · omega
      · exact zAt_mono (by omega) s6
    · exact d6
  have fL : ∀ i j, i < j → j < k + 1 → (zvL e j - zuL e i) * q1 ≤ p1 * (x j - x i) := by
    obtain ⟨_, _, -, -, -, -, -, -, -, -, hf⟩ := a4
    exact hf a5
  have fH : ∀ i j, i < j → j < k + 1 → (zvH e j - zuH e i) * q3 ≤ p3 * (x j - x i) := by
    obtain ⟨_, _, -, -, -, -, -, -, -, -, hf⟩ := d4
    exact hf d5
  have hfeas : zfe x e k ↔ p1 * q3 + p3 * q1 ≤ 0 := by
    constructor
    · intro hz
      obtain ⟨i', j', m1, m2, -, m3, m4⟩ := atH
      rcases atL with ⟨z1, z2, -⟩ | ⟨i, j, n1, n2, -, n3, n4⟩
      · rw [z1, z2, m3]
        unfold zvH zuH
        omega
      · have := hz i j i' j' n1 (by omega) m1 (by omega)
        unfold zvL zuL at n3
        unfold zvH zuH at m3
        rw [n3, n4, m3, m4]
        grind
    · intro hno i j i' j' n1 n2 m1 m2
      have k1 := fL i j n1 (by omega)
      have k2 := fH i' j' m1 (by omega)
      unfold zvL zuL at k1
      unfold zvH zuH at k2
      have hd := hx i j n1 n2
      have hd' := hx i' j' m1 m2
      -- low ≤ p1/q1 ≤ -p3/q3 ≤ high
      have z1 : ((j : Int) - i - 2 * e) * q3 ≤ (-p3) * (x j - x i) := by
        refine zqle (c := p1) (d := q1) (by grind) (by grind) (by omega) a5 d5
      refine zqle (c := -p3) (d := q3) z1 (by grind) (by omega) d5 (by omega)
  have hpq : ((J3 (c + 1) 4) * (J3 (c + 4) 5) + (J3 (c + 4) 4) * (J3 (c + 1) 5)).toInt = p1 * q3 + p3 * q1 := by
    have w1 : ((J3 (c + 1) 4) * (J3 (c + 4) 5)).toInt = p1 * q3 := by
      rw [zl_mulB, eP1.1, eP3.2] <;> first | rw [eP1.1]; omega | rw [eP3.2]; omega
    have w2 : ((J3 (c + 4) 4) * (J3 (c + 1) 5)).toInt = p3 * q1 := by
      rw [zl_mulB, eP3.1, eP1.2] <;> first | rw [eP3.1]; omega | rw [eP1.2]; omega
    have y1 := zabsmul (a := p1) (c := q3) (A := 2000) (C := 5000000000) (by omega) (by omega) (by omega) (by omega)
    have y2 := zabsmul (a := p3) (c := q1) (A := 2000) (C := 5000000000) (by omega) (by omega) (by omega) (by omega)
    rw [zl_add, w1, w2]
    · rw [w1, w2]; omega
    · rw [w1, w2]; omega
  have key : zg_Fit_reach_36 X c ar (Int32.ofNat fr) (Int32.ofNat e) (Int32.ofNat en) l6 (Int32.ofNat (fr + k)) (zM b I J) = if p1 * q3 + p3 * q1 ≤ 0 then zg_Fit_reach_164 X c ar (Int32.ofNat fr) (Int32.ofNat e) (Int32.ofNat en) (Int32.ofNat (fr + k)) (zM b I4 J3) else zg_Fit_reach_196 X l6 (zM b I4 J3) := by
    conv => lhs; rw [zg_Fit_reach_36_e, if_neg (fun q => absurd ((zn_le (by omega) (by omega)).mp q) (by omega)), zix har (by omega) (by omega)]
    simp only [zM_I, zM_J, zM_P, zM_wI, zM_wL, zrf, zob hc0, hc1, hc2, zob hc3.1, zob hc4.1, hsub, a1, b1, d1, g1, zcv]
    rw [if_neg]
    · by_cases w : p1 * q3 + p3 * q1 ≤ 0
      · rw [if_pos w, if_pos]
        rw [lg_cmp_le, zl_le, hpq, e00]; exact w
      · rw [if_neg w, if_neg]
        rw [lg_cmp_le, zl_le, hpq, e00]; exact w
    · rw [lg_cmp_le, zl_le, eP3.2, e00]; omega
  rw [key]
  have hxk : ∀ i, i < k → x i < x k := fun i hi => hx i k hi (Nat.le_refl _)
  by_cases w : p1 * q3 + p3 * q1 ≤ 0
  · have FL : 0 < q1 → p1 * (x k - h1.1) ≤ (zuL e k - h1.2) * q1 := fun _ => by
      rcases atL with ⟨z1, z2, z3⟩ | atL
      · rw [z1, z2, z3]
        unfold zuL
        omega
      · exact zFeas (u' := zuH e) (v' := zvH e) hxk (fun i => by unfold zvH zuL; omega) (fun i => by unfold zuH zvL; omega) (by unfold zvL zuL; omega) atL a5 d5 fH w
    have FH : 0 < q3 → p3 * (x k - h3.1) ≤ (zuH e k - h3.2) * q3 := fun _ => zFeas (u' := zuL e) (v' := zvL e) hxk (fun i => by unfold zvL zuH; omega) (fun i => by unfold zuL zvH; omega) (by unfold zvH zuH; omega) atH d5 a5 fL (by grind)
    obtain ⟨r1', y1, y2⟩ := zSI_top a4 hxk FL
    obtain ⟨r3', y3, y4⟩ := zSI_top d4 hxk FH
    rw [y1] at b3
    rw [y3] at g3
    refine ⟨I4, zsJ (zsJ J3 c 2 (J3 (c + 1) 4)) c 3 (J3 (c + 1) 5), fun a ha => ⟨fI a ha, by rw [zsJ_ne (by omega), zsJ_ne (by omega), fJ a (by omega) (by omega)]⟩, Or.inl ⟨hfeas.mpr w, ⟨h1, r1', p1, q1, h3, r3', p3, q3, ?_, ?_, y2, y4, atL, Or.inr atH, a5, a7 s7 s70, ?_, ?_, hfeas.mpr w⟩, ?_⟩⟩
    · obtain ⟨st, t1, t2, t3, t4, t5, t6, t7, t8⟩ := b3
      have g : ∀ a, c + 1 ≤ a → a ≤ c + 3 → I4 a = I2 a := fun a h1 h2 => by rw [g2 a (by omega) (by omega) (by omega), (d2 a (by omega)).1]
      exact ⟨st, by rw [g _ (by omega) (by omega)]; exact t1, by rw [g _ (by omega) (by omega)]; exact t2, fun i w hw => by rw [g _ (by omega) (by omega), g _ (by omega) (by omega)]; exact t3 i w hw, t4, t5, by rw [zsJ_ne (by omega), zsJ_ne (by omega), jl]; exact t6, by rw [zsJ_ne (by omega), zsJ_ne (by omega), jl]; exact t7, t8⟩
    · obtain ⟨st, t1, t2, t3, t4, t5, t6, t7, t8⟩ := g3
      exact ⟨st, t1, t2, t3, t4, t5, by rw [zsJ_ne (by omega), zsJ_ne (by omega)]; exact t6, by rw [zsJ_ne (by omega), zsJ_ne (by omega)]; exact t7, t8⟩
    · rw [zsJ_off (by decide), zsJ_self]; exact eP1.1
    · rw [zsJ_self]; exact eP1.2
    · rw [if_pos w, zg_Fit_reach_164_e]
      simp only [zM_I, zM_J, zM_P, zM_wI, zM_wL, zrf, zob hc0, hc1, zob hc3.1, zn_add1]
      rw [zsJ_ne (by omega)]
  · refine ⟨I4, J3, fun a ha => ⟨fI a ha, fJ a (by omega) (by omega)⟩, Or.inr ⟨fun q => w (hfeas.mp q), fJ c (by omega) (by omega), ?_⟩⟩
    rw [if_neg w, zg_Fit_reach_196_e]
theorem zFS_slp {x : Nat → Int} {e k c : Nat} {I : zI} {J : zJ} (hk : 1 ≤ k) (hx : ∀ i j, i < j → j < k → x i < x j) (h : zFS x e k I J c) : zSlp x e (k - 1) (J c 2).toInt (J c 3).toInt := by
  obtain ⟨hl, rl, pl, ql, hh, rh, ph, qh, s1, s2, s3, s4, s5, s6, s7, s70, s8, s9, s10⟩ := h
  rw [s8, s9]
  have hf : ∀ i j, i < j → j < k → (zvL e j - zuL e i) * ql ≤ pl * (x j - x i) := by
    obtain ⟨_, _, -, -, -, -, -, -, -, -, hf⟩ := s3
    exact hf s7
  refine ⟨s7, s70, fun i j h1 h2 => ?_, ?_⟩
  · have := hf i j h1 (by omega)
    unfold zvL zuL at this
    grind
  · rcases s5 with ⟨z1, z2, -⟩ | ⟨i, j, h1, h2, h3, h4, h5⟩
    · exact Or.inl ⟨z1, z2⟩
    · refine Or.inr ⟨i, j, h1, by omega, ?_, h5⟩
      rw [h4]; unfold zvL zuL; omega
/-- from the second place on -/
theorem c_reach36 {x : Nat → Int} {e c ar N fr en : Nat} (hc : zFt b c) (har : zSH[ar]? = some (.inl (0, N))) (hN : N < 2 ^ 20) (hac : ar < c ∨ c + 6 < ar) (he : e ≤ 20) (hen : en ≤ N) (hen2 : en ≤ 301) (hxr : ∀ i, -2147483648 ≤ x i ∧ x i ≤ 2147483647) (hx : ∀ i j, i < j → fr + j < en → x i < x j) : ∀ (m k : Nat) (I : zI) (J : zJ), fr + k + m = en → 1 ≤ k → (∀ j, fr + j < en → (I ar (fr + j)).toInt = x j) → zFS x e k I J c → ∃ I' J' last, zg_Fit_reach_36 X c ar (Int32.ofNat fr) (Int32.ofNat e) (Int32.ofNat en) (Int32.ofNat (fr + k - 1)) (Int32.ofNat (fr + k)) (zM b I J) = some (some (.int (Int32.ofNat (fr + last))), zM b I' J') ∧ fr + last < en ∧ zfe x e last ∧ (fr + last + 1 = en ∨ ¬ zfe x e (last + 1)) ∧ zSlp x e last (J' c 2).toInt (J' c 3).toInt ∧ ∀ a, (a < c ∨ c + 6 < a) → I' a = I a ∧ J' a = J a := by
  intro m
  induction m with
  | zero =>
    intro k I J hk hk1 hrow hS
    refine ⟨I, J, k - 1, ?_, by omega, ?_, Or.inl (by omega), zFS_slp hk1 (fun i j h1 h2 => hx i j h1 (by omega)) hS, fun a _ => ⟨rfl, rfl⟩⟩
    · rw [zg_Fit_reach_36_e, if_pos ((zn_le (by omega) (by omega)).mpr (by omega)), zg_Fit_reach_196_e, show fr + k - 1 = fr + (k - 1) by omega]
    · obtain ⟨_, _, _, _, _, _, _, _, -, -, -, -, -, -, -, -, -, -, h⟩ := hS
      exact h
  | succ m ih =>
    intro k I J hk hk1 hrow hS
    obtain ⟨I', J', f1, f2⟩ := c_fitstep X (b := b) (l6 := Int32.ofNat (fr + k - 1)) hc har hN hac he hk1 (by omega) hen hen2 hxr (hrow k (by omega)) (fun i j h1 h2 => hx i j h1 (by omega)) hS
    rcases f2 with ⟨g1, g2, g3⟩ | ⟨g1, g2, g3⟩
    · obtain ⟨I2, J2, last, k1, k2, k3, k4, k5, k6⟩ := ih (k + 1) I' J' (by omega) (by omega) (fun j hj => by rw [(f1 ar hac).1]; exact hrow j hj) g2
      refine ⟨I2, J2, last, ?_, k2, k3, k4, k5, fun a ha => ⟨by rw [(k6 a ha).1, (f1 a ha).1], by rw [(k6 a ha).2, (f1 a ha).2]⟩⟩
      rw [g3, ← k1, show fr + (k + 1) - 1 = fr + k by omega, show fr + (k + 1) = fr + k + 1 by omega]
    · refine ⟨I', J', k - 1, ?_, by omega, ?_, Or.inr ?_, ?_, f1⟩
      · rw [g3, show fr + k - 1 = fr + (k - 1) by omega]
      · obtain ⟨_, _, _, _, _, _, _, _, -, -, -, -, -, -, -, -, -, -, h⟩ := hS
        exact h
      · rw [show k - 1 + 1 = k by omega]; exact g1
      · rw [g2]
        exact zFS_slp hk1 (fun i j h1 h2 => hx i j h1 (by omega)) hS
theorem c_reach {x : Nat → Int} {e c ar N fr en : Nat} {I : zI} {J : zJ} (hc : zFt b c) (har : zSH[ar]? = some (.inl (0, N))) (hN : N < 2 ^ 20) (hac : ar < c ∨ c + 6 < ar) (he : e ≤ 20) (hfr : fr < en) (hen : en ≤ N) (hen2 : en ≤ 301) (hxr : ∀ i, -2147483648 ≤ x i ∧ x i ≤ 2147483647) (hx : ∀ i j, i < j → fr + j < en → x i < x j) (hrow : ∀ j, fr + j < en → (I ar (fr + j)).toInt = x j) : ∃ I' J' last, zg_Fit_reach_0 X c ar (Int32.ofNat fr) (Int32.ofNat en) (Int32.ofNat e) (zM b I J) = some (some (.int (Int32.ofNat (fr + last))), zM b I' J') ∧ fr + last < en ∧ zfe x e last ∧ (fr + last + 1 = en ∨ ¬ zfe x e (last + 1)) ∧ zSlp x e last (J' c 2).toInt (J' c 3).toInt ∧ ∀ a, (a < c ∨ c + 6 < a) → I' a = I a ∧ J' a = J a := by
  obtain ⟨hc0, hc1, hc2, hc3, hc4⟩ := hc
  obtain ⟨I1, J1, a1, a2, a3⟩ := c_begin X (b := b) (I := I) (J := J) hc3 0 1
  obtain ⟨I2, J2, b1, b2, b3⟩ := c_begin X (b := b) (I := I1) (J := J1) hc4 0 0
  have ie : (Int32.ofNat e).toInt = e := zn_int (by omega)
  have i0 : (Int32.ofNat 0).toInt = 0 := rfl
  have v2 : (Int32.ofNat 0 + Int32.ofNat e).toInt = zuL e 0 := by
    rw [zi_add (by omega) (by omega), i0, ie]; rfl
  have v4 : (-Int32.ofNat 0 + Int32.ofNat e).toInt = zuH e 0 := by
    have : -Int32.ofNat 0 = 0 := by decide
    rw [this, zi_add (by rw [ie]; have : (0 : Int32).toInt = 0 := rfl; omega) (by rw [ie]; have : (0 : Int32).toInt = 0 := rfl; omega), ie]
    rfl
  have g1 : I2 ar = I ar := by rw [(b3 ar (by omega)).1, (a3 ar (by omega)).1]
  have hr0 : (I2 ar (fr + 0)).toInt = x 0 := by rw [g1]; exact hrow 0 (by omega)
  have sL : zSide I2 J2 (c + 1) 0 [] 0 1 := by
    obtain ⟨st, t1, t2, t3, t4, t5, t6, t7, t8⟩ := a2
    exact ⟨st, by rw [(b3 _ (by omega)).1]; exact t1, by rw [(b3 _ (by omega)).1]; exact t2, fun i g h => by simp at h, t4, t5, by rw [(b3 _ (by omega)).2]; exact t6, by rw [(b3 _ (by omega)).2]; exact t7, t8⟩
  obtain ⟨I3, d1, d2, d3⟩ := c_top X (b := b) (x := I2 ar (fr + 0)) (u := Int32.ofNat 0 + Int32.ofNat e) hc3 (by rw [v2]; unfold zuL; omega) sL (by decide)
  rw [hr0, v2] at d3
  have sH : zSide I3 J2 (c + 4) 0 [] 0 0 := by
    obtain ⟨st, t1, t2, t3, t4, t5, t6, t7, t8⟩ := b2
    exact ⟨st, by rw [d2 _ (by omega) (by omega) (by omega)]; exact t1, by rw [d2 _ (by omega) (by omega) (by omega)]; exact t2, fun i g h => by simp at h, t4, t5, t6, t7, t8⟩
  obtain ⟨I4, f1, f2, f3⟩ := c_top X (b := b) (x := I2 ar (fr + 0)) (u := -Int32.ofNat 0 + Int32.ofNat e) hc4 (by rw [v4]; unfold zuH; omega) sH (by decide)
  rw [hr0, v4] at f3
  have tt : ∀ z : zPt, ztop [] z = [z] := fun z => rfl
  rw [tt] at d3 f3
  have empty : ∀ (a : Nat) (Ia : zI) (Ja : zJ) (x0 v0 : Int32) (p q : Int), zSd b a → zSide Ia Ja a 0 [] p q → zg_Side_addBottom_0 X a x0 v0 (zM b Ia Ja) = some (none, zM b Ia Ja) := fun a Ia Ja x0 v0 p q hs hS => by
    obtain ⟨st, t1, t2, t3, t4, t5, t6, t7, t8⟩ := hS
    simp only [List.length_nil, Nat.add_zero] at t2 t4
    simp only [zg_Side_addBottom_0_e, zM_I, zM_J, zM_P, zM_wI, zM_wL, zrf, zob hs.1, t1, t2]
    rw [if_neg (fun q => absurd ((zn_lt (by omega) (by omega)).mp q) (by omega))]
  have q0 : (J2 (c + 4) 5).toInt = 0 := by
    obtain ⟨st, t1, t2, t3, t4, t5, t6, t7, t8⟩ := b2
    exact t7
  have pL : (J2 (c + 1) 4).toInt = 0 ∧ (J2 (c + 1) 5).toInt = 1 := by
    obtain ⟨st, t1, t2, t3, t4, t5, t6, t7, t8⟩ := sL
    exact ⟨t6, t7⟩
  have e00 : (0 : Int64).toInt = 0 := rfl
  have hFS : zFS x e 1 I4 (zsJ (zsJ J2 c 2 (J2 (c + 1) 4)) c 3 (J2 (c + 1) 5)) c := by
    have one : ∀ (u v : Nat → Int) (p q : Int), (0 ≤ q) → (q = 0 ∨ p = 0) → zSI x u v 1 1 [(x 0, u 0)] p q := fun u v p q h1 h2 => by
      refine ⟨(x 0, u 0), [], rfl, by unfold zinc; simp, trivial, fun g hg => ⟨0, by decide, by simpa using hg⟩, h1, fun _ => Nat.le_refl _, fun hq i hi => ?_, fun i hi X V hX hL => ?_, fun hq i j h1 h2 => by omega⟩
      · have : i = 0 := by omega
        subst this; simp
      · have : i = 0 := by omega
        subst this
        exact ⟨(x 0, u 0), by simp, Int.le_refl _⟩
    refine ⟨(x 0, zuL e 0), [], 0, 1, (x 0, zuH e 0), [], 0, 0, ?_, ?_, one _ _ 0 1 (by decide) (Or.inr rfl), one _ _ 0 0 (by decide) (Or.inl rfl), Or.inl ⟨rfl, rfl, rfl⟩, Or.inl ⟨rfl, rfl⟩, by decide, by decide, ?_, ?_, fun i j i' j' h1 h2 => by omega⟩
    · obtain ⟨st, t1, t2, t3, t4, t5, t6, t7, t8⟩ := d3
      have g : ∀ a, c + 1 ≤ a → a ≤ c + 3 → I4 a = I3 a := fun a h1 h2 => by rw [f2 a (by omega) (by omega) (by omega)]
      exact ⟨st, by rw [g _ (by omega) (by omega)]; exact t1, by rw [g _ (by omega) (by omega)]; exact t2, fun i w hw => by rw [g _ (by omega) (by omega), g _ (by omega) (by omega)]; exact t3 i w hw, t4, t5, by rw [zsJ_ne (by omega), zsJ_ne (by omega)]; exact t6, by rw [zsJ_ne (by omega), zsJ_ne (by omega)]; exact t7, t8⟩
    · obtain ⟨st, t1, t2, t3, t4, t5, t6, t7, t8⟩ := f3
      exact ⟨st, t1, t2, t3, t4, t5, by rw [zsJ_ne (by omega), zsJ_ne (by omega)]; exact t6, by rw [zsJ_ne (by omega), zsJ_ne (by omega)]; exact t7, t8⟩
    · rw [zsJ_off (by decide), zsJ_self]; exact pL.1
    · rw [zsJ_self]; exact pL.2
  have fr4 : ∀ a, (a < c ∨ c + 6 < a) → I4 a = I a ∧ J2 a = J a := fun a ha => by
    refine ⟨?_, ?_⟩
    · rw [f2 a (by omega) (by omega) (by omega), d2 a (by omega) (by omega) (by omega), (b3 a (by omega)).1, (a3 a (by omega)).1]
    · rw [(b3 a (by omega)).2, (a3 a (by omega)).2]
  obtain ⟨I5, J5, last, k1, k2, k3, k4, k5, k6⟩ := c_reach36 X (b := b) ⟨hc0, hc1, hc2, hc3, hc4⟩ har hN hac he hen hen2 hxr hx (en - fr - 1) 1 I4 _ (by omega) (Nat.le_refl _) (fun j hj => by rw [(fr4 ar hac).1]; exact hrow j hj) hFS
  refine ⟨I5, J5, last, ?_, k2, k3, k4, k5, fun a ha => ⟨by rw [(k6 a ha).1, (fr4 a ha).1], by rw [(k6 a ha).2, zsJ_ne (by omega), zsJ_ne (by omega), (fr4 a ha).2]⟩⟩
  have hsub : Int32.ofNat (fr + 0) - Int32.ofNat fr = Int32.ofNat 0 := by
    rw [zn_sub (by omega), Nat.add_sub_cancel_left]
  rw [show fr + 1 - 1 = fr + 0 by omega] at k1
  have step : zg_Fit_reach_36 X c ar (Int32.ofNat fr) (Int32.ofNat e) (Int32.ofNat en) (Int32.ofNat fr) (Int32.ofNat (fr + 0)) (zM b I2 J2) = some (some (.int (Int32.ofNat (fr + last))), zM b I5 J5) := by
    rw [← k1, zg_Fit_reach_36_e, if_neg (fun q => absurd ((zn_le (by omega) (by omega)).mp q) (by omega)), zix har (by omega) (by omega)]
    simp only [zM_I, zM_J, zM_P, zM_wI, zM_wL, zrf, zob hc0, hc1, hc2, zob hc3.1, zob hc4.1, hsub, empty _ _ _ _ _ _ _ hc3 sL, d1, empty _ _ _ _ _ _ _ hc4 sH, f1, zcv]
    rw [if_pos (by rw [lg_cmp_le, zl_le, q0, e00]; exact Int.le_refl _), zg_Fit_reach_164_e]
    simp only [zM_I, zM_J, zM_P, zM_wI, zM_wL, zrf, zob hc0, hc1, zob hc3.1, zn_add1]
    rw [zsJ_ne (by omega)]
  rw [zg_Fit_reach_0_e]
  simp only [zM_I, zM_J, zM_P, zM_wI, zM_wL, zrf, zob hc0, hc1, hc2, zob hc3.1, zob hc4.1, a1, b1, zcv, zlen' har (show 0 < 7 by decide)]
  rw [s_minN X _ _ _ (by omega) (by omega), zci, show zg_Math_max0_0 X 0 (Int32.ofNat fr) (zM b I2 J2) = _ from s_maxN X 0 fr (zM b I2 J2) (by decide) (by omega), zci, show min en N = en by omega, show max 0 fr = fr + 0 by omega]
  exact step
end ZFIT
