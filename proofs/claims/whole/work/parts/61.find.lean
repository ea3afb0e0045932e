/-! finding a key by levels -/
def zpd (l : Nat) (f : Nat → Int) (x : Int) : Nat → Bool := fun i => if l = 0 then decide (f i < x) else decide (f i ≤ x)
noncomputable def zlr (f : Nat → Int) (n e u : Nat) (x : Int) (l k : Nat) : Nat × Nat := zbs (zpd l (zTf f n e u l) x) 32 (zgk (zTf f n e u l) (zTn f n e u l) (zel e u l) k x - zel e u l - 1) (min (zTn f n e u l) (zgk (zTf f n e u l) (zTn f n e u l) (zel e u l) k x + zel e u l + 2))
noncomputable def zfd (f : Nat → Int) (n e u : Nat) (x : Int) : Nat → Nat → Nat → Nat × Nat
  | 0, k, c => (k, c)
  | l + 1, k, c => if l = 0 then ((zlr f n e u x l k).1, c + (zlr f n e u x l k).2) else zfd f n e u x l ((zlr f n e u x l k).1 - 1) (c + (zlr f n e u x l k).2)
theorem zlr_le {f : Nat → Int} {n e u : Nat} {x : Int} {l k : Nat} : (zlr f n e u x l k).1 ≤ zTn f n e u l := by
  have h1 := zbs_le (zpd l (zTf f n e u l) x) 32 (zgk (zTf f n e u l) (zTn f n e u l) (zel e u l) k x - zel e u l - 1) (min (zTn f n e u l) (zgk (zTf f n e u l) (zTn f n e u l) (zel e u l) k x + zel e u l + 2))
  have h2 := zgk_le (f := zTf f n e u l) (n := zTn f n e u l) (e := zel e u l) (k := k) (x := x)
  unfold zlr
  omega
/-- only what was compared differs -/
def zonly (cv j0 : Nat) (I I' : zI) : Prop := (∀ j, j ≠ j0 → I' cv j = I cv j) ∧ ∀ a, a ≠ cv → I' a = I a
theorem zonly_tr {cv j0 : Nat} {I I' I'' : zI} (h : zonly cv j0 I I') (h' : zonly cv j0 I' I'') : zonly cv j0 I I'' := ⟨fun j hj => (h'.1 j hj).trans (h.1 j hj), fun a ha => (h'.2 a ha).trans (h.2 a ha)⟩
theorem zCov_only {I I' : zI} {J : zJ} {cv n e u H : Nat} {f : Nat → Int} (h : zCov I J cv f n e u H) (ho : zonly cv 3 I I') : zCov I' J cv f n e u H := by
  obtain ⟨h1, h2, h3, h4⟩ := h
  exact ⟨by rw [ho.1 2 (by decide)]; exact h1, h2, zLv0_frame h3 (fun a w1 w2 => ⟨ho.2 a (by omega), rfl⟩), fun l hl => zLv_frame (h4 l hl) (fun a w1 w2 => ⟨ho.2 a (by omega), rfl⟩)⟩
theorem zMCov_only {I I' : zI} {J : zJ} {n e u H : Nat} {f : Nat → Int} (h : zMCov I J f n e u H) (ho : zonly 181 30 I I') : zMCov I' J f n e u H := by
  obtain ⟨h1, h2, h3, h4⟩ := h
  exact ⟨by rw [ho.1 25 (by decide)]; exact h1, h2, fun i hi => by rw [ho.2 189 (by omega)]; exact h3 i hi, fun l hl => zML_frame (h4 l hl) ⟨by rw [ho.2 253 (by omega)], by rw [ho.2 254 (by omega)], by rw [ho.2 255 (by omega)]⟩ ⟨by rw [ho.2 _ (by omega)], by rw [ho.2 _ (by omega)], by rw [ho.2 _ (by omega)], rfl, rfl⟩⟩
theorem zT_pos {f : Nat → Int} {n e u : Nat} (hn : 0 < n) : ∀ l, 0 < zTn f n e u l
  | 0 => hn
  | l + 1 => by rw [zTn_s]; exact zNp_pos (zT_pos hn l)
section ZFD
variable (X : zv_X) {b : Bool}
theorem c_find14 {J : zJ} {cv n e u H : Nat} {f : Nat → Int} {x : Int32} (hc : zCvS b cv) (hf : zfb f) (hu : zupto f n) (hn : n ≤ 300) (he20 : e ≤ 20) (hu20 : u ≤ 20) : ∀ (L k c : Nat) (I : zI), L ≤ H → (0 < L → k < zTn f n e u L) → zCov I J cv f n e u H → I cv 3 = Int32.ofNat c → ∃ I', zg_Cover_find_14 X cv x (Int32.ofNat k) (Int32.ofNat L - 1) (zM b I J) = some (some (.int (Int32.ofNat (zfd f n e u x.toInt L k c).1)), zM b I' J) ∧ I' cv 3 = Int32.ofNat (zfd f n e u x.toInt L k c).2 ∧ zonly cv 3 I I' := by
  intro L
  induction L with
  | zero =>
    intro k c I _ _ hC h3
    refine ⟨I, ?_, h3, fun _ _ => rfl, fun _ _ => rfl⟩
    rw [zg_Cover_find_14_e, if_pos (by decide), zg_Cover_find_128_e]
    rfl
  | succ l ih =>
    intro k c I hL hk hC h3
    have hH9 := zHt_9 hu hn hC.2.1
    have hs := (hc.2.2.2.2.1 l (by omega)).2
    have hcap := zT_cap (e := e) (u := u) hu hn (l := l) (by omega)
    have h300 := zT_300 (e := e) (u := u) hu hn (l := l) (by omega)
    have hel : zel e u l ≤ 20 := by unfold zel; split <;> omega
    have hlv := hC.2.2.2 l (by omega)
    have hk' : k < zNp (zTf f n e u l) (zTn f n e u l) (zel e u l) := by rw [← zTn_s]; exact hk (by omega)
    have hg := c_guess X (b := b) (x := x) hs hcap (by omega) hel (zT_up hu l) (zT_fb hf l) hlv hk'
    have hgl := zgk_le (f := zTf f n e u l) (n := zTn f n e u l) (e := zel e u l) (k := k) (x := x.toInt)
    have er : zlr f n e u x.toInt l k = zbs (zpd l (zTf f n e u l) x.toInt) 32 (zgk (zTf f n e u l) (zTn f n e u l) (zel e u l) k x.toInt - zel e u l - 1) (min (zTn f n e u l) (zgk (zTf f n e u l) (zTn f n e u l) (zel e u l) k x.toInt + zel e u l + 2)) := rfl
    have hle := zlr_le (f := f) (n := n) (e := e) (u := u) (x := x.toInt) (l := l) (k := k)
    rw [zfd]
    generalize hG : zgk (zTf f n e u l) (zTn f n e u l) (zel e u l) k x.toInt = g at *
    generalize hE : zel e u l = el at *
    have emax : zg_Math_max0_0 X 0 (Int32.ofNat g - Int32.ofNat el - 1) (zM b I J) = some (some (.int (Int32.ofNat (g - el - 1))), zM b I J) := by
      rw [s_max]
      congr 4
      have i1 : (Int32.ofNat g - Int32.ofNat el - 1).toInt = (g : Int) - el - 1 := by
        have e1 : (1 : Int32).toInt = 1 := rfl
        rw [zi_sub, zi_sub, zn_int (by omega), zn_int (by omega), e1]
        · rw [zn_int (by omega), zn_int (by omega)]; omega
        · rw [zn_int (by omega), zn_int (by omega)]; omega
        · rw [zi_sub, zn_int (by omega), zn_int (by omega), e1] <;> first | omega | (rw [zn_int (by omega), zn_int (by omega)]; omega)
        · rw [zi_sub, zn_int (by omega), zn_int (by omega), e1] <;> first | omega | (rw [zn_int (by omega), zn_int (by omega)]; omega)
      have e0 : (0 : Int32).toInt = 0 := rfl
      rw [zi_eq, zn_int (by omega)]
      split
      · rename_i hh
        rw [zi_lt, e0, i1] at hh
        rw [i1]; omega
      · rename_i hh
        rw [zi_lt, e0, i1] at hh
        rw [e0]; omega
    have emin : zg_Math_min0_0 X (Int32.ofNat (zTn f n e u l)) (Int32.ofNat g + Int32.ofNat el + 2) (zM b I J) = some (some (.int (Int32.ofNat (min (zTn f n e u l) (g + el + 2)))), zM b I J) := by
      rw [zn_add, zkb2, s_minN X _ _ _ (by omega) (by omega)]
    have lk := fun (I : zI) (J : zJ) (l : Nat) (hl : l < 10) (k : Nat → Option (Option Value × zv_M)) => (zcvlev (I := I) (J := J) (l := l) (k := k) hc hl)
    simp only [zM_P] at lk
    have row : ∀ (x' : Int32), (∀ i, i < zTn f n e u l → (zpd l (zTf f n e u l) x.toInt i = true ↔ I (cv + 9 + 6 * l + 1) i < x')) → ∃ I', zg_Cover_halve_0 X cv (cv + 9 + 6 * l + 1) (Int32.ofNat (g - el - 1)) (Int32.ofNat (min (zTn f n e u l) (g + el + 2))) x' (zM b I J) = some (some (.int (Int32.ofNat (zlr f n e u x.toInt l k).1)), zM b I' J) ∧ I' cv 3 = Int32.ofNat (c + (zlr f n e u x.toInt l k).2) ∧ zonly cv 3 I I' := fun x' hx' => by
      rw [er]
      obtain ⟨I', f1, f2, f3, f4⟩ := c_halve X (b := b) (I := I) (J := J) (lo := g - el - 1) (hi := min (zTn f n e u l) (g + el + 2)) (c := c) hc.1 hs.2.1 hs.2.2.2.2.2.2.2.2.2.2.2 hcap (by omega) (by omega) (by omega) h3 hx'
      exact ⟨I', f1, f2, f3, f4⟩
    have st : ∀ r, (if l = 0 then zv_ci (zg_Cover_halve_0 X cv (cv + 9 + 6 * l + 1) (Int32.ofNat (g - el - 1)) (Int32.ofNat (min (zTn f n e u l) (g + el + 2))) x (zM b I J)) (fun v12 M11 => some (some (.int v12), M11)) else zg_Cover_find_90 X cv x (Int32.ofNat l) (cv + 9 + 6 * l) (Int32.ofNat (g - el - 1)) (Int32.ofNat (min (zTn f n e u l) (g + el + 2))) (zM b I J)) = r → zg_Cover_find_14 X cv x (Int32.ofNat k) (Int32.ofNat (l + 1) - 1) (zM b I J) = r := fun r hr => by
      rw [← hr, zks1 (by omega), Nat.add_sub_cancel, zg_Cover_find_14_e, if_neg (fun q => absurd ((zkl0 (by omega)).mp q) (by omega)), zob hc.1, zM_P, hc.2.1, zrf, lk I J l (by omega), zob hs.1, hg, zci, zob hs.1, zM_I, hlv.2.1, emax, zci, zob hs.1, zob hs.1, zM_I, hlv.1, hlv.2.1, emin, zci, zob hs.1, zM_P, hs.2.2.2.2.2.2.1, zrf, zob hc.1]
      by_cases c0 : l = 0
      · rw [if_pos ((zke0 (by omega)).mpr c0), if_pos c0]
      · rw [if_neg (fun q => c0 ((zke0 (by omega)).mp q)), if_neg c0]
    by_cases c0 : l = 0
    · obtain ⟨I', f1, f2, f3⟩ := row x (fun i hi => by
        unfold zpd
        rw [if_pos c0, decide_eq_true_iff, zi_lt, hlv.2.2.2.1 i hi])
      refine ⟨I', st _ ?_, ?_, f3⟩
      · rw [if_pos c0, f1, zci, if_pos c0]
      · rw [if_pos c0]; exact f2
    · have hxr := zi_rng x
      have e1 : (1 : Int32).toInt = 1 := rfl
      have emx : (999999999 : Int32).toInt = 999999999 := rfl
      obtain ⟨I', f1, f2, f3⟩ := row ((if (999999999 : Int32) < x then 999999999 else x) + 1) (fun i hi => by
        unfold zpd
        have hfb := zT_fb (n := n) (e := e) (u := u) hf l i
        rw [if_neg c0, decide_eq_true_iff, zi_lt, hlv.2.2.2.1 i hi]
        split
        · rename_i hh
          rw [zi_lt, emx] at hh
          rw [zi_add (by omega) (by omega), e1, emx]; omega
        · rename_i hh
          rw [zi_lt, emx] at hh
          rw [zi_add (by omega) (by omega), e1]; omega)
      have hC' := zCov_only hC f3
      obtain ⟨I2, g1, g2, g3⟩ := ih ((zlr f n e u x.toInt l k).1 - 1) (c + (zlr f n e u x.toInt l k).2) I' (by omega) (fun hl0 => by
        have : 1 < zTn f n e u l := by
          rcases hC.2.1 with ⟨w1, w2⟩ | ⟨w1, w2, w3, w4⟩
          · omega
          · exact w4 l (by omega) (by omega)
        omega) hC' f2
      refine ⟨I2, st _ ?_, by rw [if_neg c0]; exact g2, zonly_tr f3 g3⟩
      have em1 : zg_Math_max0_0 X 0 (Int32.ofNat (zlr f n e u x.toInt l k).1 - 1) (zM b I' J) = some (some (.int (Int32.ofNat ((zlr f n e u x.toInt l k).1 - 1))), zM b I' J) := by
        rcases Nat.eq_zero_or_pos (zlr f n e u x.toInt l k).1 with d | d
        · rw [d, s_max, if_neg (by decide)]; rfl
        · rw [zn_sub1 d, show (0 : Int32) = Int32.ofNat 0 from rfl, s_maxN X _ _ _ (by decide) (by omega), show max 0 ((zlr f n e u x.toInt l k).1 - 1) = (zlr f n e u x.toInt l k).1 - 1 by omega]
      rw [if_neg c0, zg_Cover_find_90_e, s_min, zci, zob hs.1, zM_P, hs.2.2.2.2.2.2.1, zrf, zob hc.1, f1, zci, em1, zci, ← Int32.sub_eq_add_neg, g1, if_neg c0]
theorem c_find {I : zI} {J : zJ} {cv n e u H : Nat} {f : Nat → Int} {x : Int32} (hc : zCvS b cv) (hf : zfb f) (hu : zupto f n) (hn : n ≤ 300) (he20 : e ≤ 20) (hu20 : u ≤ 20) (hC : zCov I J cv f n e u H) : ∃ I', zg_Cover_find_0 X cv x (zM b I J) = some (some (.int (Int32.ofNat (zfd f n e u x.toInt H 0 0).1)), zM b I' J) ∧ I' cv 3 = Int32.ofNat (zfd f n e u x.toInt H 0 0).2 ∧ zonly cv 3 I I' := by
  have ho : zonly cv 3 I (zst I cv 3 0) := ⟨fun j hj => zst_off hj, fun a ha => zst_ne ha⟩
  obtain ⟨I', f1, f2, f3⟩ := c_find14 X (b := b) (x := x) hc hf hu hn he20 hu20 H 0 0 (zst I cv 3 0) (Nat.le_refl _) (fun hH => by
    rcases hC.2.1 with ⟨w1, w2⟩ | ⟨w1, w2, w3, w4⟩
    · omega
    · have := zT_pos (f := f) (n := n) (e := e) (u := u) w1 H
      omega) (zCov_only hC ho) zst_self
  refine ⟨I', ?_, f2, zonly_tr ho f3⟩
  rw [zg_Cover_find_0_e, zob hc.1, zM_wI, zob hc.1, zM_I, zst_off (by decide), hC.1]
  exact f1
end ZFD
