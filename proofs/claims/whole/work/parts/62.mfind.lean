/-! the reference seeks -/
section ZMF
variable (X : zv_X) {b : Bool}
theorem m_seeks17 {J : zJ} {n e u H : Nat} {f : Nat → Int} {x : Int32} (hf : zfb f) (hu : zupto f n) (hn : n ≤ 300) (he20 : e ≤ 20) (hu20 : u ≤ 20) : ∀ (L k pl c : Nat) (I : zI), L ≤ H → (0 < L → k < zTn f n e u L) → (L = 0 → pl = k) → zMCov I J f n e u H → I 181 30 = Int32.ofNat c → ∃ I', zg_M_seeks_17 X 181 x (Int32.ofNat k) (Int32.ofNat pl) (Int32.ofNat L - 1) (zM b I J) = some (some (.int (Int32.ofNat (zfd f n e u x.toInt L k c).1)), zM b I' J) ∧ I' 181 30 = Int32.ofNat (zfd f n e u x.toInt L k c).2 ∧ zonly 181 30 I I' := by
  intro L
  induction L with
  | zero =>
    intro k pl c I _ _ hpl hC h3
    refine ⟨I, ?_, h3, fun _ _ => rfl, fun _ _ => rfl⟩
    rw [zg_M_seeks_17_e, if_pos (by decide), zg_M_seeks_121_e, hpl rfl]
    rfl
  | succ l ih =>
    intro k pl c I hL hk hpl hC h3
    have hH9 := zHt_9 hu hn hC.2.1
    have hl12 : l < 12 := by omega
    have h300 := zT_300 (e := e) (u := u) hu hn (l := l) (by omega)
    have hel : zel e u l ≤ 20 := by unfold zel; split <;> omega
    have hlv := hC.2.2.2 l (by omega)
    have hk' : k < zNp (zTf f n e u l) (zTn f n e u l) (zel e u l) := by rw [← zTn_s]; exact hk (by omega)
    have hg := m_guessOf X (b := b) (x := x) hl12 (by omega) hel (zT_up hu l) (zT_fb hf l) hlv hk'
    have hgl := zgk_le (f := zTf f n e u l) (n := zTn f n e u l) (e := zel e u l) (k := k) (x := x.toInt)
    have er : zlr f n e u x.toInt l k = zbs (zpd l (zTf f n e u l) x.toInt) 32 (zgk (zTf f n e u l) (zTn f n e u l) (zel e u l) k x.toInt - zel e u l - 1) (min (zTn f n e u l) (zgk (zTf f n e u l) (zTn f n e u l) (zel e u l) k x.toInt + zel e u l + 2)) := rfl
    have hle := zlr_le (f := f) (n := n) (e := e) (u := u) (x := x.toInt) (l := l) (k := k)
    rw [zfd]
    generalize hG : zgk (zTf f n e u l) (zTn f n e u l) (zel e u l) k x.toInt = g at *
    generalize hE : zel e u l = el at *
    have i1 : (Int32.ofNat g - Int32.ofNat el - 1).toInt = (g : Int) - el - 1 := by
      have e1 : (1 : Int32).toInt = 1 := rfl
      rw [zi_sub, zi_sub, zn_int (by omega), zn_int (by omega), e1]
      · rw [zn_int (by omega), zn_int (by omega)]; omega
      · rw [zn_int (by omega), zn_int (by omega)]; omega
      · rw [zi_sub, zn_int (by omega), zn_int (by omega), e1] <;> first | omega | (rw [zn_int (by omega), zn_int (by omega)]; omega)
      · rw [zi_sub, zn_int (by omega), zn_int (by omega), e1] <;> first | omega | (rw [zn_int (by omega), zn_int (by omega)]; omega)
    have e0 : (0 : Int32).toInt = 0 := rfl
    obtain ⟨I', f1, f2, f3, f4⟩ := m_halves6 X (b := b) (J := J) (l := l) (n := zTn f n e u l) (g := zpd l (zTf f n e u l) x.toInt) (x := x) hl12 (by omega) 32 (g - el - 1) (min (zTn f n e u l) (g + el + 2)) c I (by omega) (by omega) (by omega) h3 (fun i hi => by
      unfold zpd
      by_cases c0 : l = 0
      · rw [if_pos c0, if_pos c0, decide_eq_true_iff, zi_lt, hlv.2.2.2.1 i hi]
      · rw [if_neg c0, if_neg c0, decide_eq_true_iff, zi_le, hlv.2.2.2.1 i hi])
    rw [← er] at f1 f2
    have fo : zonly 181 30 I I' := ⟨f3, f4⟩
    have hC' := zMCov_only hC fo
    have e98 : zg_M_seeks_17 X 181 x (Int32.ofNat k) (Int32.ofNat pl) (Int32.ofNat (l + 1) - 1) (zM b I J) = zg_M_seeks_17 X 181 x (Int32.ofNat ((zlr f n e u x.toInt l k).1 - 1)) (Int32.ofNat (zlr f n e u x.toInt l k).1) (Int32.ofNat l - 1) (zM b I' J) := by
      have lo : ∀ w, zg_M_seeks_74 X 181 x (Int32.ofNat l) (Int32.ofNat g + Int32.ofNat el + 2) (Int32.ofNat (g - el - 1)) (Int32.ofNat l) 181 (zM b I J) = w → zg_M_seeks_17 X 181 x (Int32.ofNat k) (Int32.ofNat pl) (Int32.ofNat (l + 1) - 1) (zM b I J) = w := fun w hw => by
        rw [← hw, zks1 (by omega), Nat.add_sub_cancel]
        conv => lhs; rw [zg_M_seeks_17_e, if_neg (fun q => absurd ((zkl0 (by omega)).mp q) (by omega)), zo181, hg, zci]
        simp only [zM_I, zM_J, zM_P, zM_wI, zM_wL, zrf, zo181, zp181_24, zx255 hl12, hlv.2.1, zg_M_seeks_72_e]
        by_cases d : el + 1 ≤ g
        · rw [if_pos (by rw [zi_le, e0, i1]; omega)]
          congr 1
          rw [zi_eq, i1, zn_int (by omega)]; omega
        · rw [if_neg (by rw [zi_le, e0, i1]; omega), show g - el - 1 = 0 by omega]
          rfl
      apply lo
      rw [zg_M_seeks_74_e]
      simp only [zM_I, zM_J, zM_P, zM_wI, zM_wL, zrf, zo181, zp181_22, zx253 hl12, hlv.1, zn_add, zkb2, zg_M_seeks_96_e]
      have e98 : ∀ hi, hi = min (zTn f n e u l) (g + el + 2) → zg_M_seeks_98 X 181 x (Int32.ofNat l) (Int32.ofNat hi) (Int32.ofNat (g - el - 1)) (Int32.ofNat l) 181 (zM b I J) = zg_M_seeks_17 X 181 x (Int32.ofNat ((zlr f n e u x.toInt l k).1 - 1)) (Int32.ofNat (zlr f n e u x.toInt l k).1) (Int32.ofNat l - 1) (zM b I' J) := fun hi hhi => by
        rw [hhi, zg_M_seeks_98_e, zo181, zg_M_halves_0_e, f1, zci, zg_M_seeks_113_e, zg_M_seeks_114_e, zg_M_seeks_114_e, ← Int32.sub_eq_add_neg]
        rcases Nat.eq_zero_or_pos (zlr f n e u x.toInt l k).1 with d | d
        · rw [d, if_pos (by decide)]; rfl
        · rw [if_neg (fun q => absurd ((zkn0 (by omega)).mp q) (by omega)), zn_sub1 d]
      by_cases d : g + el + 2 ≤ zTn f n e u l
      · rw [if_pos ((zn_le (by omega) (by omega)).mpr d)]
        exact e98 _ (by omega)
      · rw [if_neg (fun q => d ((zn_le (by omega) (by omega)).mp q))]
        exact e98 _ (by omega)
    rw [e98]
    by_cases c0 : l = 0
    · subst c0
      refine ⟨I', ?_, by rw [if_pos rfl]; exact f2, fo⟩
      rw [zg_M_seeks_17_e, if_pos (by decide), zg_M_seeks_121_e, if_pos rfl]
    · obtain ⟨I2, g1, g2, g3⟩ := ih ((zlr f n e u x.toInt l k).1 - 1) (zlr f n e u x.toInt l k).1 (c + (zlr f n e u x.toInt l k).2) I' (by omega) (fun hl0 => by
        have : 1 < zTn f n e u l := by
          rcases hC.2.1 with ⟨w1, w2⟩ | ⟨w1, w2, w3, w4⟩
          · omega
          · exact w4 l (by omega) (by omega)
        omega) (fun h => absurd h c0) hC' f2
      exact ⟨I2, by rw [if_neg c0]; exact g1, by rw [if_neg c0]; exact g2, zonly_tr fo g3⟩
theorem m_seeks {I : zI} {J : zJ} {n e u H : Nat} {f : Nat → Int} {x : Int32} (hf : zfb f) (hu : zupto f n) (hn : n ≤ 300) (he20 : e ≤ 20) (hu20 : u ≤ 20) (hC : zMCov I J f n e u H) : ∃ I', zg_M_seeks_0 X 181 x (zM b I J) = some (some (.int (Int32.ofNat (zfd f n e u x.toInt H 0 0).1)), zM b I' J) ∧ I' 181 30 = Int32.ofNat (zfd f n e u x.toInt H 0 0).2 ∧ zonly 181 30 I I' := by
  have ho : zonly 181 30 I (zst I 181 30 0) := ⟨fun j hj => zst_off hj, fun a ha => zst_ne ha⟩
  obtain ⟨I', f1, f2, f3⟩ := m_seeks17 X (b := b) (x := x) hf hu hn he20 hu20 H 0 0 0 (zst I 181 30 0) (Nat.le_refl _) (fun hH => by
    rcases hC.2.1 with ⟨w1, w2⟩ | ⟨w1, w2, w3, w4⟩
    · omega
    · have := zT_pos (f := f) (n := n) (e := e) (u := u) w1 H
      omega) (fun _ => rfl) (zMCov_only hC ho) zst_self
  refine ⟨I', ?_, f2, zonly_tr ho f3⟩
  rw [zg_M_seeks_0_e, zo181, zM_wI, zo181, zM_I, zst_off (by decide), hC.1]
  exact f1
/-! what seek answers -/
noncomputable def zsk (f : Nat → Int) (n e u H : Nat) (x w : Int32) : Int32 := if w < 0 ∨ 2 < w then -1 else if w = 2 then Int32.ofNat (zbs (zpd 0 f x.toInt) 32 0 n).2 else if w = 0 then Int32.ofNat (zfd f n e u x.toInt H 0 0).1 else Int32.ofNat (zfd f n e u x.toInt H 0 0).2
theorem c_seek {I : zI} {J : zJ} {n e u H : Nat} {f : Nat → Int} {x w : Int32} (hf : zfb f) (hu : zupto f n) (hn : n ≤ 300) (he20 : e ≤ 20) (hu20 : u ≤ 20) (hC : zCov I J 40 f n e u H) : ∃ I', zg_GP_seek_0 X 0 x w (zM b I J) = some (some (.int (zsk f n e u H x w)), zM b I' J) ∧ zonly 40 3 I I' := by
  have e2 : (2 : Int32).toInt = 2 := rfl
  unfold zsk
  rw [zg_GP_seek_0_e, zg_GP_seek_9_e]
  by_cases c1 : w < 0
  · rw [if_pos c1, if_pos (Or.inl c1)]
    exact ⟨I, rfl, fun _ _ => rfl, fun _ _ => rfl⟩
  · rw [if_neg c1]
    by_cases c2 : 2 < w
    · rw [if_neg (by rw [zi_le]; rw [zi_lt] at c2; omega), if_pos (Or.inr c2)]
      exact ⟨I, rfl, fun _ _ => rfl, fun _ _ => rfl⟩
    · rw [if_pos (by rw [zi_le]; rw [zi_lt] at c2; omega), if_neg (by simp [c1, c2]), zg_GP_seek_11_e]
      by_cases c3 : w = 2
      · rw [if_pos c3, if_pos c3, zo0, zM_P, zp0_4, zrf, zo40, zg_Cover_findPlainly_0_e]
        have hs := zLs_49 b
        have hlv := hC.2.2.1
        have ho : zonly 40 3 I (zst I 40 3 0) := ⟨fun j hj => zst_off hj, fun a ha => zst_ne ha⟩
        obtain ⟨I', f1, f2, f3, f4⟩ := c_halve X (b := b) (I := zst I 40 3 0) (J := J) (cv := 40) (ar := 50) (n := n) (lo := 0) (hi := n) (c := 0) (g := zpd 0 f x.toInt) (x := x) rfl hs.2.1 (by decide) (by omega) (by decide) (by decide) (Nat.le_refl _) zst_self (fun i hi => by
          unfold zpd
          rw [if_pos rfl, decide_eq_true_iff, zi_lt, zst_ne (by decide)]
          rw [show (I 50 i).toInt = f i from hlv.2.2.2.1 i hi])
        have lk := fun (I : zI) (J : zJ) (k : Nat → Option (Option Value × zv_M)) => (show zv_iq (zM b I J) 41 0 (fun j => zv_rf (zP b 41 j) k) = k 49 from zcvlev (I := I) (J := J) (l := 0) (k := k) (zCvS_40 b) (by decide))
        refine ⟨I', ?_, zonly_tr ho ⟨f3, f4⟩⟩
        have h49 : zst I 40 3 0 49 1 = Int32.ofNat n := by rw [zst_ne (by decide)]; exact hlv.1
        have f1' : zg_Cover_halve_0 X 40 50 0 (Int32.ofNat n) x (zM b (zst I 40 3 0) J) = _ := f1
        simp only [zo40, zM_wI, zM_P, zp40_0, zrf, lk, zob hs.1, hs.2.2.2.2.2.2.1, zM_I, h49, f1', zci, zg_GP_seek_35_e]
        rw [if_neg (by rw [c3]; decide), zg_GP_seek_44_e, zo0, zM_P, zp0_4, zrf, zo40, zM_I, f2, zg_GP_seek_51_e, Nat.zero_add]
      · rw [if_neg c3, if_neg c3, zg_GP_seek_27_e, zo0, zM_P, zp0_4, zrf, zo40]
        obtain ⟨I', f1, f2, f3⟩ := c_find X (b := b) (x := x) (zCvS_40 b) hf hu hn he20 hu20 hC
        refine ⟨I', ?_, f3⟩
        rw [f1, zci, zg_GP_seek_35_e]
        by_cases c4 : w = 0
        · rw [if_pos c4, if_pos c4, zg_GP_seek_51_e]
        · rw [if_neg c4, if_neg c4, zg_GP_seek_44_e, zo0, zM_P, zp0_4, zrf, zo40, zM_I, f2, zg_GP_seek_51_e]
theorem m_seek {I : zI} {J : zJ} {R : List Int32} {e u : Nat} {x w : Int32} (hR : R.length ≤ 300) (h8 : I 182 8 = Int32.ofNat R.length) (hr : zrow (fun k => I 182 (20 + k)) R) (hw0 : I 182 0 = Int32.ofNat e) (hw : I 182 1 = Int32.ofNat u) (he20 : e ≤ 20) (hu20 : u ≤ 20) (hf : zfb (fun i => (R.getD i 0).toInt)) (hu : zupto (fun i => (R.getD i 0).toInt) R.length) : ∃ I' J' H, zHt (fun i => (R.getD i 0).toInt) R.length e u H ∧ zg_M_seek_0 X 181 x w (zM b I J) = some (some (.int (zsk (fun i => (R.getD i 0).toInt) R.length e u H x w)), zM b I' J') ∧ (∀ a, a < 181 → I' a = I a ∧ J' a = J a) ∧ (∀ a, 182 ≤ a → a ≤ 187 → I' a = I a) ∧ ∀ j, j ≠ 25 → j ≠ 30 → I' 181 j = I 181 j := by
  obtain ⟨I1, J1, H, k1, k2, k3⟩ := m_laysRow X (b := b) (I := I) (J := J) hR h8 hr hw he20 hu20 hf hu
  have e2 : (2 : Int32).toInt = 2 := rfl
  rw [zg_M_seek_0_e, m_isIn, zci, zif01]
  by_cases c1 : w < 0 ∨ 2 < w
  · rw [if_pos c1]
    refine ⟨I, J, H, k2.2.1, ?_, fun _ _ => ⟨rfl, rfl⟩, fun _ _ _ => rfl, fun _ _ _ => rfl⟩
    unfold zsk
    rw [if_pos c1]
  · rw [if_neg c1, zg_M_seek_11_e, zo181, zM_P, zp181_0, zrf, zw_0, zM_I, hw0, zo181, k1, zcv]
    have fr : ∀ I', zonly 181 30 I1 I' → (∀ a, a < 181 → I' a = I a ∧ J1 a = J a) ∧ (∀ a, 182 ≤ a → a ≤ 187 → I' a = I a) ∧ ∀ j, j ≠ 25 → j ≠ 30 → I' 181 j = I 181 j := fun I' ho => ⟨fun a ha => ⟨(ho.2 a (by omega)).trans (k3.1 a ha).1, (k3.1 a ha).2⟩, fun a h1 h2 => (ho.2 a (by omega)).trans (k3.2.1 a h1 h2), fun j h1 h2 => (ho.1 j h2).trans (k3.2.2 j h1)⟩
    by_cases c3 : w = 2
    · rw [if_pos (by rw [c3]; decide), zg_M_seek_45_e]
      obtain ⟨I', f1, f2, f3, f4⟩ := m_halves6 X (b := b) (J := J1) (l := 0) (n := R.length) (g := zpd 0 (fun i => (R.getD i 0).toInt) x.toInt) (x := x) (by decide) (by omega) 32 0 R.length 0 (zst I1 181 30 0) (by decide) (Nat.le_refl _) (by omega) zst_self (fun i hi => by
        unfold zpd
        rw [if_pos rfl, if_pos rfl, decide_eq_true_iff, zi_lt, zst_ne (by decide), show 189 + 0 = 189 from rfl, k2.2.2.1 i hi])
      have ho : zonly 181 30 I1 I' := zonly_tr ⟨fun j hj => zst_off hj, fun a ha => zst_ne ha⟩ ⟨f3, f4⟩
      obtain ⟨r1, r2, r3⟩ := fr I' ho
      refine ⟨I', J1, H, k2.2.1, ?_, r1, r2, r3⟩
      have w8 : zst I1 181 30 0 182 8 = Int32.ofNat R.length := by rw [zst_ne (by decide), k3.2.1 182 (by decide) (by decide)]; exact h8
      have f1' : zg_M_halves_6 X 181 0 x 0 (Int32.ofNat R.length) (zM b (zst I1 181 30 0) J1) = _ := f1
      simp only [zM_I, zM_J, zM_P, zM_wI, zM_wL, zrf, zo181, zp181_0, zw_8, w8, zg_M_halves_0_e, f1', zci, f2]
      unfold zsk
      rw [if_neg c1, if_pos c3, Nat.zero_add]
    · have hw2 : ¬ 2 ≤ w := by
        intro q
        rw [zi_le] at q
        rw [zi_eq] at c3
        exact c1 (Or.inr (by rw [zi_lt]; omega))
      rw [if_neg hw2]
      obtain ⟨I', f1, f2, f3⟩ := m_seeks X (b := b) (x := x) hf hu hR he20 hu20 k2
      obtain ⟨r1, r2, r3⟩ := fr I' f3
      refine ⟨I', J1, H, k2.2.1, ?_, r1, r2, r3⟩
      rw [zo181, f1, zci]
      unfold zsk
      rw [if_neg c1, if_neg c3]
      by_cases c4 : w = 0
      · rw [if_pos c4, if_pos c4, zg_M_seek_44_e]
      · rw [if_neg c4, if_neg c4, zg_M_seek_40_e, zo181, zM_I, f2, zg_M_seek_44_e]
end ZMF
