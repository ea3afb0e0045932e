/-! the reference lays its levels -/
def zfM (I I' : zI) (J J' : zJ) : Prop := (∀ a, a < 181 → I' a = I a ∧ J' a = J a) ∧ (∀ a, 182 ≤ a → a ≤ 187 → I' a = I a) ∧ ∀ j, j ≠ 25 → I' 181 j = I 181 j
theorem zfM_refl (I : zI) (J : zJ) : zfM I I J J := ⟨fun _ _ => ⟨rfl, rfl⟩, fun _ _ _ => rfl, fun _ _ => rfl⟩
theorem zfM_tr {I I' I'' : zI} {J J' J'' : zJ} (h : zfM I I' J J') (h' : zfM I' I'' J' J'') : zfM I I'' J J'' := ⟨fun a ha => ⟨(h'.1 a ha).1.trans (h.1 a ha).1, (h'.1 a ha).2.trans (h.1 a ha).2⟩, fun a h1 h2 => (h'.2.1 a h1 h2).trans (h.2.1 a h1 h2), fun j hj => (h'.2.2 j hj).trans (h.2.2 j hj)⟩
theorem zML_frame {I I' : zI} {J J' : zJ} {l n e : Nat} {f : Nat → Int} (h : zML I J l f n e) (h1 : I' 253 l = I 253 l ∧ I' 254 l = I 254 l ∧ I' 255 l = I 255 l) (h2 : I' (189 + l) = I (189 + l) ∧ I' (202 + l) = I (202 + l) ∧ I' (215 + l) = I (215 + l) ∧ J' (228 + l) = J (228 + l) ∧ J' (241 + l) = J (241 + l)) : zML I' J' l f n e := by
  obtain ⟨y1, y2, y3, y4, y5⟩ := h
  refine ⟨by rw [h1.1]; exact y1, by rw [h1.2.2]; exact y2, by rw [h1.2.1]; exact y3, fun i hi => by rw [h2.1]; exact y4 i hi, fun k hk => ?_⟩
  rw [h2.2.1, h2.2.2.1, h2.2.2.2.1, h2.2.2.2.2]
  exact y5 k hk
def zMCov (I : zI) (J : zJ) (f : Nat → Int) (n e u H : Nat) : Prop := I 181 25 = Int32.ofNat H ∧ zHt f n e u H ∧ (∀ i, i < n → (I 189 i).toInt = f i) ∧ ∀ l, l < H → zML I J l (zTf f n e u l) (zTn f n e u l) (zel e u l)
section ZLL
variable (X : zv_X) {b : Bool}
theorem m_lv117 {J : zJ} {h n e N : Nat} {f : Nat → Int} (hh : 1 ≤ h) (hh12 : h < 12) (hn : n ≤ 301) (hN : N = zNp f n e) (hN3 : N < 302) : ∀ (m k : Nat) (I : zI), k + m = N → I 181 25 = Int32.ofNat h → I 253 h = Int32.ofNat N → zML I J (h - 1) f n e → ∃ I', (∀ l3, zg_M_laysLevels_117 X 181 l3 (Int32.ofNat k) (zM b I J) = zg_M_laysLevels_29 X 181 l3 (zM b I' J)) ∧ (∀ a, a ≠ 189 + h → I' a = I a) ∧ (∀ i, i < k → I' (189 + h) i = I (189 + h) i) ∧ ∀ i, k ≤ i → i < N → (I' (189 + h) i).toInt = f (zF f n e i) := by
  intro m
  induction m with
  | zero =>
    intro k I hk h1 h2 hL
    refine ⟨I, fun l3 => ?_, fun a _ => rfl, fun i _ => rfl, fun i h1 h2 => by omega⟩
    rw [zg_M_laysLevels_117_e]
    simp only [zM_I, zM_J, zM_P, zM_wI, zM_wL, zrf, zo181, zp181_22, h1, zx253 hh12, h2]
    rw [if_pos ((zn_le (by omega) (by omega)).mpr (by omega)), zg_M_laysLevels_175_e]
  | succ m ih =>
    intro k I hk h1 h2 hL
    have hkN : k < zNp f n e := by omega
    have hF := (zNp_spec f n e).2 k hkN
    have hrow := hL.2.2.2.1 _ hF
    have hfst := (hL.2.2.2.2 k hkN).1
    obtain ⟨I', f1, f2, f3, f4⟩ := ih (k + 1) (zst I (189 + h) k (I (189 + (h - 1)) (zF f n e k))) (by omega) (by rw [zst_ne (by omega)]; exact h1) (by rw [zst_ne (by omega)]; exact h2) (zML_frame hL ⟨by rw [zst_ne (by omega)], by rw [zst_ne (by omega)], by rw [zst_ne (by omega)]⟩ ⟨by rw [zst_ne (by omega)], by rw [zst_ne (by omega)], by rw [zst_ne (by omega)], rfl, rfl⟩)
    refine ⟨I', fun l3 => ?_, fun a ha => by rw [f2 a ha, zst_ne ha], fun i hi => by rw [f3 i (by omega), zst_off (by omega)], fun i w1 w2 => ?_⟩
    · rw [← f1, zg_M_laysLevels_117_e]
      simp only [zM_I, zM_J, zM_P, zM_wI, zM_wL, zrf, zo181, zp181_22, zp181_17, zp181_18, h1, zx253 hh12, h2, zn_sub1 hh, zmt188 hh12, zmt188 (show h - 1 < 12 by omega), zmt201 (show h - 1 < 12 by omega), zmx202 (show h - 1 < 12 by omega) (show k < 302 by omega), hfst, zmx189 (show h - 1 < 12 by omega) (show zF f n e k < 302 by omega), zmx189 hh12 (show k < 302 by omega), zn_add1]
      rw [if_neg (fun q => absurd ((zn_le (by omega) (by omega)).mp q) (by omega))]
    · rcases Nat.lt_or_ge k i with c | c
      · exact f4 i c w2
      · have : i = k := by omega
        subst this
        rw [f3 i (by omega), zst_self]; exact hrow
theorem m_lv29 {n e u : Nat} {f : Nat → Int} (hf : zfb f) (hu : zupto f n) (hn : n ≤ 300) (hn0 : 0 < n) (he20 : e ≤ 20) (hu20 : u ≤ 20) : ∀ (m h : Nat) (I : zI) (J : zJ), h + m = 9 → I 181 25 = Int32.ofNat h → I 182 1 = Int32.ofNat u → I 253 h = Int32.ofNat (zTn f n e u h) → I 255 h = Int32.ofNat (zel e u h) → (∀ i, i < zTn f n e u h → (I (189 + h) i).toInt = zTf f n e u h i) → (∀ l, 1 ≤ l → l ≤ h → 1 < zTn f n e u l) → (∀ i, i < n → (I 189 i).toInt = f i) → (∀ l, l < h → zML I J l (zTf f n e u l) (zTn f n e u l) (zel e u l)) → ∃ I' J' H, zg_M_laysLevels_29 X 181 1 (zM b I J) = some (none, zM b I' J') ∧ zMCov I' J' f n e u H ∧ zfM I I' J J' := by
  have hbd := zT_bd (e := e) (u := u) hu hn
  intro m
  induction m with
  | zero =>
    intro h I J hm h1 hw h2 h3 hr hl hr0 hlv
    exfalso
    have : h = 9 := by omega
    subst this
    have := hl 9 (by omega) (by omega)
    omega
  | succ m ih =>
    intro h I J hm h1 hw h2 h3 hr hl hr0 hlv
    have hel : zel e u h ≤ 20 := by unfold zel; split <;> omega
    have h300 := zT_300 (e := e) (u := u) hu hn (l := h) (by omega)
    have h300' := zT_300 (e := e) (u := u) hu hn (l := h + 1) (by omega)
    obtain ⟨I1, J1, a1, a2, a3, a4, a5⟩ := m_covers X (b := b) (I := I) (J := J) (l := h) (by omega) (by omega) hel (zT_fb hf h) (zT_up hu h) h2 h3 hr
    have eN : zNp (zTf f n e u h) (zTn f n e u h) (zel e u h) = zTn f n e u (h + 1) := (zTn_s h).symm
    have hp : I1 254 h = Int32.ofNat (zTn f n e u (h + 1)) := by rw [a2.2.2.1, eN]
    have h25 : I1 181 25 = Int32.ofNat h := by rw [a3 181 (by omega) (by omega) (by omega)]; exact h1
    have lv1 : ∀ l, l < h + 1 → zML (zst I1 181 25 (Int32.ofNat (h + 1))) J1 l (zTf f n e u l) (zTn f n e u l) (zel e u l) := fun l hl' => by
      rcases Nat.lt_or_ge l h with c | c
      · exact zML_frame (hlv l c) ⟨by rw [zst_ne (by omega), a3 253 (by omega) (by omega) (by omega)], by rw [zst_ne (by omega), a4 l (by omega)], by rw [zst_ne (by omega), a3 255 (by omega) (by omega) (by omega)]⟩ ⟨by rw [zst_ne (by omega), a3 _ (by omega) (by omega) (by omega)], by rw [zst_ne (by omega), a3 _ (by omega) (by omega) (by omega)], by rw [zst_ne (by omega), a3 _ (by omega) (by omega) (by omega)], by rw [a5 _ (by omega) (by omega) (by omega)], by rw [a5 _ (by omega) (by omega) (by omega)]⟩
      · have : l = h := by omega
        subst this
        exact zML_frame a2 ⟨by rw [zst_ne (by omega)], by rw [zst_ne (by omega)], by rw [zst_ne (by omega)]⟩ ⟨by rw [zst_ne (by omega)], by rw [zst_ne (by omega)], by rw [zst_ne (by omega)], rfl, rfl⟩
    have fr1 : zfM I (zst I1 181 25 (Int32.ofNat (h + 1))) J J1 := by
      refine ⟨fun a ha => ⟨by rw [zst_ne (by omega), a3 a (by omega) (by omega) (by omega)], a5 a (by omega) (by omega) (by omega)⟩, fun a w1 w2 => by rw [zst_ne (by omega), a3 a (by omega) (by omega) (by omega)], fun j hj => by rw [zst_off hj, a3 181 (by omega) (by omega) (by omega)]⟩
    have r0' : ∀ i, i < n → ((zst I1 181 25 (Int32.ofNat (h + 1))) 189 i).toInt = f i := fun i hi => by
      rw [zst_ne (by omega), a3 189 (by omega) (by omega) (by omega)]; exact hr0 i hi
    have st : zg_M_laysLevels_29 X 181 1 (zM b I J) = if zTn f n e u (h + 1) ≤ 1 then zg_M_laysLevels_71 X 181 0 (zM b (zst I1 181 25 (Int32.ofNat (h + 1))) J1) else zg_M_laysLevels_71 X 181 1 (zM b (zst I1 181 25 (Int32.ofNat (h + 1))) J1) := by
      rw [zg_M_laysLevels_29_e, if_neg (by decide)]
      simp only [zM_I, zM_J, zM_P, zM_wI, zM_wL, zrf, zo181, h1, a1, zcv, h25, zn_add1, zp181_23, zst_self, zks1 (show 1 ≤ h + 1 by omega), Nat.add_sub_cancel, zx254 (show h < 12 by omega)]
      rw [zst_ne (by omega), hp, zg_M_laysLevels_70_e]
      by_cases c : zTn f n e u (h + 1) ≤ 1
      · rw [if_pos c, if_pos ((zkn1 (by omega)).mpr c)]
      · rw [if_neg c, if_neg (fun q => c ((zkn1 (by omega)).mp q))]
    rw [st]
    by_cases c : zTn f n e u (h + 1) ≤ 1
    · rw [if_pos c]
      refine ⟨_, _, h + 1, ?_, ⟨zst_self, Or.inr ⟨hn0, by omega, c, fun l l1 l2 => hl l l1 (by omega)⟩, r0', lv1⟩, fr1⟩
      rw [zg_M_laysLevels_71_e, if_pos rfl, zg_M_laysLevels_29_e, if_pos rfl, zg_M_laysLevels_178_e]
    · rw [if_neg c, zg_M_laysLevels_71_e, if_neg (by decide), zg_M_laysLevels_79_e]
      have h8 : h + 1 ≤ 8 := by
        rcases Nat.lt_or_ge h 8 with d | d
        · omega
        · have : h = 8 := by omega
          subst this
          exact absurd hbd.2.2.2.2.2.2.2.2.2 c
      have w182 : (zst I1 181 25 (Int32.ofNat (h + 1))) 182 1 = Int32.ofNat u := by rw [zst_ne (by omega), a3 182 (by omega) (by omega) (by omega)]; exact hw
      generalize hI2 : zst I1 181 25 (Int32.ofNat (h + 1)) = I2 at *
      have i25 : I2 181 25 = Int32.ofNat (h + 1) := by rw [← hI2]; exact zst_self
      have i254 : I2 254 h = Int32.ofNat (zTn f n e u (h + 1)) := by rw [← hI2, zst_ne (by omega)]; exact hp
      have hL := lv1 h (by omega)
      obtain ⟨I3, g1, g2, g3, g4⟩ := m_lv117 X (b := b) (J := J1) (h := h + 1) (n := zTn f n e u h) (e := zel e u h) (N := zTn f n e u (h + 1)) (f := zTf f n e u h) (by omega) (by omega) (by omega) eN.symm (by omega) (zTn f n e u (h + 1)) 0 (zst (zst I2 253 (h + 1) (Int32.ofNat (zTn f n e u (h + 1)))) 255 (h + 1) (Int32.ofNat u)) (by omega) (by rw [zst_ne (by omega), zst_ne (by omega)]; exact i25) (by rw [zst_ne (by omega), zst_self]) (by
        rw [Nat.add_sub_cancel]
        exact zML_frame hL ⟨by rw [zst_ne (by omega), zst_off (by omega)], by rw [zst_ne (by omega), zst_ne (by omega)], by rw [zst_off (by omega), zst_ne (by omega)]⟩ ⟨by rw [zst_ne (by omega), zst_ne (by omega)], by rw [zst_ne (by omega), zst_ne (by omega)], by rw [zst_ne (by omega), zst_ne (by omega)], rfl, rfl⟩)
      have fr3 : zfM I2 I3 J1 J1 := by
        refine ⟨fun a ha => ⟨by rw [g2 a (by omega), zst_ne (by omega), zst_ne (by omega)], rfl⟩, fun a w1 w2 => by rw [g2 a (by omega), zst_ne (by omega), zst_ne (by omega)], fun j hj => by rw [g2 181 (by omega), zst_ne (by omega), zst_ne (by omega)]⟩
      obtain ⟨I4, J4, H, k1, k2, k3⟩ := ih (h + 1) I3 J1 (by omega) (by rw [g2 181 (by omega), zst_ne (by omega), zst_ne (by omega)]; exact i25) (by rw [g2 182 (by omega), zst_ne (by omega), zst_ne (by omega)]; exact w182) (by rw [g2 253 (by omega), zst_ne (by omega), zst_self]) (by
        rw [g2 255 (by omega), zst_self]; unfold zel; rw [if_neg (by omega)]) (fun i hi => by rw [g4 i (by omega) hi, zTf_s]) (fun l l1 l2 => by
        rcases Nat.lt_or_ge l (h + 1) with d | d
        · exact hl l l1 (by omega)
        · have : l = h + 1 := by omega
          subst this; omega) (fun i hi => by
        rw [g2 189 (by omega), zst_ne (by omega), zst_ne (by omega)]; exact r0' i hi) (fun l l2 => zML_frame (lv1 l l2) ⟨by rw [g2 _ (by omega), zst_ne (by omega), zst_off (by omega)], by rw [g2 _ (by omega), zst_ne (by omega), zst_ne (by omega)], by rw [g2 _ (by omega), zst_off (by omega), zst_ne (by omega)]⟩ ⟨by rw [g2 _ (by omega), zst_ne (by omega), zst_ne (by omega)], by rw [g2 _ (by omega), zst_ne (by omega), zst_ne (by omega)], by rw [g2 _ (by omega), zst_ne (by omega), zst_ne (by omega)], rfl, rfl⟩)
      refine ⟨I4, J4, H, ?_, k2, zfM_tr fr1 (zfM_tr fr3 k3)⟩
      rw [← k1, ← g1]
      have w1a : (zst I2 253 (h + 1) (Int32.ofNat (zTn f n e u (h + 1)))) 182 1 = Int32.ofNat u := by rw [zst_ne (by omega)]; exact w182
      have w25 : (zst I2 253 (h + 1) (Int32.ofNat (zTn f n e u (h + 1)))) 181 25 = Int32.ofNat (h + 1) := by rw [zst_ne (by omega)]; exact i25
      simp only [zM_I, zM_J, zM_P, zM_wI, zM_wL, zrf, zo181, zp181_22, zp181_23, zp181_24, zp181_0, i25, zks1 (show 1 ≤ h + 1 by omega), Nat.add_sub_cancel, zx254 (show h < 12 by omega), i254, zx253 (show h + 1 < 12 by omega), w25, zw_1, w1a, zx255 (show h + 1 < 12 by omega)]
      rfl
theorem m_laysLevels {I : zI} {J : zJ} {n e u : Nat} {f : Nat → Int} (hf : zfb f) (hu : zupto f n) (hn : n ≤ 300) (he20 : e ≤ 20) (hu20 : u ≤ 20) (hw : I 182 1 = Int32.ofNat u) (hr : ∀ i, i < n → (I 189 i).toInt = f i) : ∃ I' J' H, zg_M_laysLevels_0 X 181 (Int32.ofNat n) (Int32.ofNat e) (zM b I J) = some (none, zM b I' J') ∧ zMCov I' J' f n e u H ∧ zfM I I' J J' := by
  have z253 : ∀ {α : Type} {k : Nat → Option α} {I : zI}, zv_ix (zM b I J) 0 253 0 k = k 0 := zx253 (j := 0) (by decide)
  have z255 : ∀ {α : Type} {k : Nat → Option α} {I : zI}, zv_ix (zM b I J) 0 255 0 k = k 0 := zx255 (j := 0) (by decide)
  have st : zg_M_laysLevels_0 X 181 (Int32.ofNat n) (Int32.ofNat e) (zM b I J) = zg_M_laysLevels_29 X 181 (if n = 0 then 0 else 1) (zM b (zst (zst (zst I 253 0 (Int32.ofNat n)) 255 0 (Int32.ofNat e)) 181 25 0) J) := by
    rw [zg_M_laysLevels_0_e]
    simp only [zM_I, zM_J, zM_P, zM_wI, zM_wL, zrf, zo181, zp181_22, zp181_24, z253, z255, zg_M_laysLevels_27_e, zg_M_laysLevels_28_e]
    by_cases d : n = 0
    · rw [if_pos ((zkn0 (by omega)).mpr (by omega)), if_pos d]
    · rw [if_neg (fun q => absurd ((zkn0 (by omega)).mp q) (by omega)), if_neg d]
  have fr0 : zfM I (zst (zst (zst I 253 0 (Int32.ofNat n)) 255 0 (Int32.ofNat e)) 181 25 0) J J := ⟨fun a ha => ⟨by rw [zst_ne (by omega), zst_ne (by omega), zst_ne (by omega)], rfl⟩, fun a w1 w2 => by rw [zst_ne (by omega), zst_ne (by omega), zst_ne (by omega)], fun j hj => by rw [zst_off hj, zst_ne (by omega), zst_ne (by omega)]⟩
  have r0 : ∀ i, i < n → ((zst (zst (zst I 253 0 (Int32.ofNat n)) 255 0 (Int32.ofNat e)) 181 25 0) 189 i).toInt = f i := fun i hi => by
    rw [zst_ne (by omega), zst_ne (by omega), zst_ne (by omega)]; exact hr i hi
  rw [st]
  by_cases d : n = 0
  · subst d
    refine ⟨_, J, 0, ?_, ⟨zst_self, Or.inl ⟨rfl, rfl⟩, r0, fun l hl => by omega⟩, fr0⟩
    rw [if_pos rfl, zg_M_laysLevels_29_e, if_pos rfl, zg_M_laysLevels_178_e]
    rfl
  · obtain ⟨I', J', H, k1, k2, k3⟩ := m_lv29 X (b := b) (e := e) (u := u) hf hu hn (by omega) he20 hu20 9 0 (zst (zst (zst I 253 0 (Int32.ofNat n)) 255 0 (Int32.ofNat e)) 181 25 0) J (by decide) zst_self (by rw [zst_ne (by omega), zst_ne (by omega), zst_ne (by omega)]; exact hw) (by rw [zst_ne (by omega), zst_ne (by omega), zst_self]; rfl) (by rw [zst_ne (by omega), zst_self]; rfl) r0 (fun l l1 l2 => by omega) r0 (fun l hl => by omega)
    exact ⟨I', J', H, by rw [if_neg d]; exact k1, k2, zfM_tr fr0 k3⟩
theorem m_row2 {J : zJ} {n : Nat} (hn : n ≤ 300) : ∀ (m k : Nat) (I : zI), k + m = n → I 182 8 = Int32.ofNat n → ∃ I', (∀ l1, zg_M_laysRow_2 X 181 l1 (Int32.ofNat k) (zM b I J) = zg_M_laysRow_36 X 181 l1 (zM b I' J)) ∧ (∀ a, a ≠ 189 → I' a = I a) ∧ ∀ i, I' 189 i = if k ≤ i ∧ i < n then I 182 (20 + i) else I 189 i := by
  have z0 : ∀ {α : Type} {k : Nat → Option α} {I : zI}, zv_iq (zM b I J) 188 0 (fun j => zv_rf (zP b 188 j) k) = k 189 := zmt188 (l := 0) (by decide)
  intro m
  induction m with
  | zero =>
    intro k I hk h8
    refine ⟨I, fun l1 => ?_, fun a _ => rfl, fun i => by rw [if_neg (by omega)]⟩
    rw [zg_M_laysRow_2_e]
    simp only [zM_I, zM_J, zM_P, zM_wI, zM_wL, zrf, zo181, zp181_0, zw_8, h8]
    rw [if_pos ((zn_le (by omega) (by omega)).mpr (by omega))]
  | succ m ih =>
    intro k I hk h8
    obtain ⟨I', f1, f2, f3⟩ := ih (k + 1) (zst I 189 k (I 182 (20 + k))) (by omega) (by rw [zst_ne (by omega)]; exact h8)
    refine ⟨I', fun l1 => ?_, fun a ha => by rw [f2 a ha, zst_ne ha], fun i => ?_⟩
    · rw [← f1, zg_M_laysRow_2_e]
      simp only [zM_I, zM_J, zM_P, zM_wI, zM_wL, zrf, zo181, zp181_0, zp181_17, zw_8, h8, z0, zka20, zx182 (show 20 + k < 1668 by omega), zn_add1]
      rw [if_neg (fun q => absurd ((zn_le (by omega) (by omega)).mp q) (by omega)), show (189 : Nat) = 189 + 0 from rfl, zmx189 (l := 0) (by decide) (by omega)]
    · rw [f3]
      simp only [zst_at]
      grind
theorem m_laysRow {I : zI} {J : zJ} {R : List Int32} {e u : Nat} (hR : R.length ≤ 300) (h8 : I 182 8 = Int32.ofNat R.length) (hr : zrow (fun k => I 182 (20 + k)) R) (hw : I 182 1 = Int32.ofNat u) (he20 : e ≤ 20) (hu20 : u ≤ 20) (hf : zfb (fun i => (R.getD i 0).toInt)) (hu : zupto (fun i => (R.getD i 0).toInt) R.length) : ∃ I' J' H, zg_M_laysRow_0 X 181 (Int32.ofNat e) (zM b I J) = some (none, zM b I' J') ∧ zMCov I' J' (fun i => (R.getD i 0).toInt) R.length e u H ∧ zfM I I' J J' := by
  obtain ⟨I1, a1, a2, a3⟩ := m_row2 X (b := b) (J := J) hR R.length 0 I (by omega) h8
  obtain ⟨I2, J2, H, k1, k2, k3⟩ := m_laysLevels X (b := b) (I := I1) (J := J) (e := e) (u := u) hf hu hR he20 hu20 (by rw [a2 182 (by decide)]; exact hw) (fun i hi => by
    rw [a3, if_pos ⟨Nat.zero_le _, hi⟩, show I 182 (20 + i) = R[i] from hr i _ (by simp [hi])]
    simp [hi])
  refine ⟨I2, J2, H, ?_, k2, zfM_tr ⟨fun a ha => ⟨a2 a (by omega), rfl⟩, fun a w1 w2 => a2 a (by omega), fun j _ => by rw [a2 181 (by decide)]⟩ k3⟩
  rw [zg_M_laysRow_0_e]
  have := a1 (Int32.ofNat e)
  rw [show zg_M_laysRow_2 X 181 (Int32.ofNat e) 0 (zM b I J) = _ from this, zg_M_laysRow_36_e]
  simp only [zM_I, zM_J, zM_P, zM_wI, zM_wL, zrf, zo181, zp181_0, zw_8]
  rw [a2 182 (by decide), h8, k1, zcv]
end ZLL
