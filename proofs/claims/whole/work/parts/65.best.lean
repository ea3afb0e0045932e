/-! the best slack -/
theorem zfd_le {f : Nat → Int} {n e u : Nat} {x : Int} : ∀ L k c, (zfd f n e u x L k c).2 ≤ c + 32 * L
  | 0, k, c => by rw [zfd]; omega
  | l + 1, k, c => by
    have h : (zlr f n e u x l k).2 ≤ 32 := zbs_cnt _ _ _ _
    rw [zfd]
    split
    · simp only; omega
    · have := zfd_le (f := f) (n := n) (e := e) (u := u) (x := x) l ((zlr f n e u x l k).1 - 1) (c + (zlr f n e u x l k).2)
      omega
noncomputable def zCs (f : Nat → Int) (n e u H : Nat) : Nat → Nat
  | 0 => 0
  | i + 1 => zCs f n e u H i + (zfd f n e u (f i) H 0 0).2
noncomputable def zPs (f : Nat → Int) (n e u : Nat) : Nat → Nat
  | 0 => 0
  | l + 1 => zPs f n e u l + zTn f n e u (l + 1)
theorem zCs_le {f : Nat → Int} {n e u H : Nat} (hH : H ≤ 9) : ∀ i, zCs f n e u H i ≤ 288 * i
  | 0 => Nat.zero_le _
  | i + 1 => by
    have h1 := zCs_le (f := f) (n := n) (e := e) (u := u) hH i
    have h2 := zfd_le (f := f) (n := n) (e := e) (u := u) (x := f i) H 0 0
    rw [zCs]; omega
theorem zPs_le {f : Nat → Int} {n e u : Nat} (hu : zupto f n) (hn : n ≤ 300) : ∀ l, l ≤ 9 → zPs f n e u l ≤ 300 * l
  | 0, _ => Nat.zero_le _
  | l + 1, h => by
    have h1 := zPs_le (f := f) (n := n) (e := e) (u := u) hu hn l (by omega)
    have h2 := zT_300 (e := e) (u := u) hu hn (l := l + 1) (by omega)
    rw [zPs]; omega
/-- what a slack costs -/
noncomputable def zsp (f : Nat → Int) (n u e : Nat) : Nat := zCs f n e u (Classical.epsilon (zHt f n e u)) n + zPs f n e u (Classical.epsilon (zHt f n e u))
theorem zsp_eq {f : Nat → Int} {n e u H : Nat} (h : zHt f n e u H) : zsp f n u e = zCs f n e u H n + zPs f n e u H := by
  have : zHt f n e u (Classical.epsilon (zHt f n e u)) := Classical.epsilon_spec ⟨H, h⟩
  unfold zsp
  rw [zHt_uniq this h]
theorem zHt_ex {f : Nat → Int} {n e u : Nat} (hu : zupto f n) (hn : n ≤ 300) : ∃ H, zHt f n e u H := by
  have hbd := zT_bd (e := e) (u := u) hu hn
  rcases Nat.eq_zero_or_pos n with c | c
  · exact ⟨0, Or.inl ⟨c, rfl⟩⟩
  · have key : ∀ m h, h + m = 9 → 1 ≤ h → (∀ l, 1 ≤ l → l < h → 1 < zTn f n e u l) → ∃ H, zHt f n e u H := by
      intro m
      induction m with
      | zero =>
        intro h hm h1 hl
        have : h = 9 := by omega
        subst this
        exact ⟨9, Or.inr ⟨c, h1, hbd.2.2.2.2.2.2.2.2.2, hl⟩⟩
      | succ m ih =>
        intro h hm h1 hl
        rcases Nat.lt_or_ge 1 (zTn f n e u h) with d | d
        · exact ih (h + 1) (by omega) (by omega) (fun l l1 l2 => by
            rcases Nat.lt_or_ge l h with w | w
            · exact hl l l1 w
            · have : l = h := by omega
              rw [this]; exact d)
        · exact ⟨h, Or.inr ⟨c, h1, d, hl⟩⟩
    exact key 8 1 (by decide) (Nat.le_refl _) (fun l l1 l2 => by omega)
theorem zsp_lt {f : Nat → Int} {n e u : Nat} (hu : zupto f n) (hn : n ≤ 300) : zsp f n u e < 2 ^ 20 := by
  obtain ⟨H, hH⟩ := zHt_ex (e := e) (u := u) hu hn
  have hH9 := zHt_9 hu hn hH
  have b1 := zCs_le (f := f) (n := n) (e := e) (u := u) hH9 n
  have b2 := zPs_le (f := f) (e := e) (u := u) hu hn H hH9
  rw [zsp_eq hH]; omega
noncomputable def zBS (f : Nat → Int) (n u : Nat) : Nat → Nat × Nat
  | 0 => (0, zsp f n u 0)
  | k + 1 => if zsp f n u (k + 1) < (zBS f n u k).2 then (k + 1, zsp f n u (k + 1)) else zBS f n u k
theorem zBS_lt {f : Nat → Int} {n u : Nat} (hu : zupto f n) (hn : n ≤ 300) : ∀ k, (zBS f n u k).2 < 2 ^ 20 ∧ (zBS f n u k).1 ≤ k
  | 0 => ⟨zsp_lt hu hn, Nat.le_refl _⟩
  | k + 1 => by
    have h1 := zBS_lt hu hn (u := u) k
    have h2 := zsp_lt (e := k + 1) (u := u) hu hn
    rw [zBS]
    split
    · exact ⟨h2, Nat.le_refl _⟩
    · exact ⟨h1.1, by omega⟩
section ZBS
variable (X : zv_X) {b : Bool} {J : zJ}
theorem c_cmpAll {cv n e u H : Nat} {f : Nat → Int} (hc : zCvS b cv) (hf : zfb f) (hu : zupto f n) (hn : n ≤ 300) (he20 : e ≤ 20) (hu20 : u ≤ 20) : ∀ (m i : Nat) (I : zI), i + m = n → zCov I J cv f n e u H → ∃ I', zg_Cover_comparedOfAll_4 X cv (Int32.ofNat (zCs f n e u H i)) (Int32.ofNat i) (zM b I J) = some (some (.int (Int32.ofNat (zCs f n e u H n))), zM b I' J) ∧ zonly cv 3 I I' := by
  have hs := (hc.2.2.2.2.1 0 (by decide)).2
  rw [Nat.mul_zero, Nat.add_zero] at hs
  have lk0 := fun (I : zI) (J : zJ) (k : Nat → Option (Option Value × zv_M)) => (show zv_iq (zM b I J) (cv + 1) 0 (fun j => zv_rf ((zM b I J).2.2.2 (cv + 1) j) k) = k (cv + 9) from zcvlev (I := I) (J := J) (l := 0) (k := k) hc (by decide))
  simp only [zM_P] at lk0
  intro m
  induction m with
  | zero =>
    intro i I hi hC
    have : i = n := by omega
    subst this
    refine ⟨I, ?_, fun _ _ => rfl, fun _ _ => rfl⟩
    rw [zg_Cover_comparedOfAll_4_e, zob hc.1, zM_P, hc.2.1, zrf, lk0, zob hs.1, zM_I, hC.2.2.1.1, if_pos ((zn_le (by omega) (by omega)).mpr (Nat.le_refl _)), zg_Cover_comparedOfAll_46_e]
  | succ m ih =>
    intro i I hi hC
    have hcap : n ≤ zcap 0 := by unfold zcap; simp; omega
    have hrow := hC.2.2.1.2.2.2.1 i (by omega)
    obtain ⟨I1, f1, f2, f3⟩ := c_find X (b := b) (x := I (cv + 9 + 1) i) hc hf hu hn he20 hu20 hC
    rw [hrow] at f1 f2
    obtain ⟨I2, g1, g2⟩ := ih (i + 1) I1 (by omega) (zCov_only hC f3)
    refine ⟨I2, ?_, zonly_tr f3 g2⟩
    rw [← g1, zCs, ← zn_add, zg_Cover_comparedOfAll_4_e, zob hc.1, zM_P, hc.2.1, zrf, lk0, zob hs.1, zM_I, hC.2.2.1.1, if_neg (fun q => absurd ((zn_le (by omega) (by omega)).mp q) (by omega)), zob hc.1, zrf, lk0, zob hs.1, hs.2.2.2.2.2.2.1, zrf, zix hs.2.1 (by omega) (by unfold zcap; decide), zob hc.1, f1, zci, zob hc.1, zM_I, f2, zn_add1]
theorem c_pcsAll {cv n e u H : Nat} {f : Nat → Int} {I : zI} (hc : zCvS b cv) (hu : zupto f n) (hn : n ≤ 300) (hC : zCov I J cv f n e u H) : ∀ m l, l + m = H → zg_Cover_piecesOfAll_4 X cv (Int32.ofNat (zPs f n e u l)) (Int32.ofNat l) (zM b I J) = some (some (.int (Int32.ofNat (zPs f n e u H))), zM b I J) := by
  have hH9 := zHt_9 hu hn hC.2.1
  intro m
  induction m with
  | zero =>
    intro l hl
    have : l = H := by omega
    subst this
    rw [zg_Cover_piecesOfAll_4_e, zob hc.1, zM_I, hC.1, if_pos ((zn_le (by omega) (by omega)).mpr (Nat.le_refl _)), zg_Cover_piecesOfAll_30_e]
  | succ m ih =>
    intro l hl
    have hs := (hc.2.2.2.2.1 l (by omega)).2
    have hp : I (cv + 9 + 6 * l) 3 = Int32.ofNat (zTn f n e u (l + 1)) := by rw [zTn_s]; exact (hC.2.2.2 l (by omega)).2.2.1
    have lk := fun (k : Nat → Option (Option Value × zv_M)) => (zcvlev (I := I) (J := J) (l := l) (k := k) hc (by omega))
    simp only [zM_P] at lk
    rw [zg_Cover_piecesOfAll_4_e, zob hc.1, zM_I, hC.1, if_neg (fun q => absurd ((zn_le (by omega) (by omega)).mp q) (by omega)), zob hc.1, zM_P, hc.2.1, zrf, lk, zob hs.1, hp, zn_add, zn_add1, ← zPs, ih (l + 1) (by omega)]
theorem zox {α : Type} {k : Int32 → Option α} : zv_ox X 2 0 k = k 0 ∧ zv_ox X 3 0 k = k 20 := ⟨rfl, rfl⟩
theorem c_bs22 {n u : Nat} {f : Nat → Int} {l1 : Int32} (hf : zfb f) (hu : zupto f n) (hn : n ≤ 300) (hu20 : u ≤ 20) : ∀ (m e : Nat) (I : zI) (J : zJ), e + m = 21 → I 1 2 = Int32.ofNat n → I 6 1 = Int32.ofNat u → (∀ i, i < n → (I 5 i).toInt = f i) → ∃ I' J', (∀ best few, (1 ≤ e → best = Int32.ofNat (zBS f n u (e - 1)).1 ∧ few = Int32.ofNat (zBS f n u (e - 1)).2) → zg_GP_bestSlack_22 X 0 l1 best few (Int32.ofNat e) (zM b I J) = zg_GP_bestSlack_109 X l1 (Int32.ofNat (zBS f n u 20).1) (Int32.ofNat (zBS f n u 20).2) (zM b I' J')) ∧ ∀ a, (a < 109 ∨ 177 < a) → I' a = I a ∧ J' a = J a := by
  intro m
  induction m with
  | zero =>
    intro e I J he h1 h2 hr
    refine ⟨I, J, fun best few hb => ?_, fun _ _ => ⟨rfl, rfl⟩⟩
    obtain ⟨b1, b2⟩ := hb (by omega)
    rw [zg_GP_bestSlack_22_e, (zox X).2, if_pos ((zkg20 (by omega)).mpr (by omega)), b1, b2, show e - 1 = 20 by omega]
  | succ m ih =>
    intro e I J he h1 h2 hr
    obtain ⟨I1, J1, H, a1, a2, a3⟩ := c_over X (b := b) (I := I) (J := J) (cv := 109) (ar := 5) (N := 300) (e := e) (u := u) (zCvS_109 b) hf hu hn (by omega) hu20 rfl (by decide) hn (by omega) hr
    have hH9 := zHt_9 hu hn a2.2.1
    obtain ⟨I2, d1, d2⟩ := c_cmpAll X (b := b) (J := J1) (H := H) (zCvS_109 b) hf hu hn (by omega) hu20 n 0 I1 (by omega) a2
    have hC2 := zCov_only a2 d2
    have d3 := c_pcsAll X (b := b) (zCvS_109 b) hu hn hC2 H 0 (by omega)
    have hsp := zsp_eq a2.2.1
    have b1 := zCs_le (f := f) (n := n) (e := e) (u := u) hH9 n
    have b2 := zPs_le (f := f) (e := e) (u := u) hu hn H hH9
    have hsb : zsp f n u e < 2 ^ 20 := by rw [hsp]; omega
    have fr : ∀ a, (a < 109 ∨ 177 < a) → I2 a = I a ∧ J1 a = J a := fun a ha => ⟨(d2.2 a (by omega)).trans (a3 a (by omega)).1, (a3 a (by omega)).2⟩
    obtain ⟨I3, J3, g1, g2⟩ := ih (e + 1) I2 J1 (by omega) (by rw [(fr 1 (by omega)).1]; exact h1) (by rw [(fr 6 (by omega)).1]; exact h2) (fun i hi => by rw [(fr 5 (by omega)).1]; exact hr i hi)
    refine ⟨I3, J3, fun best few hb => ?_, fun a ha => ⟨(g2 a ha).1.trans (fr a ha).1, (g2 a ha).2.trans (fr a ha).2⟩⟩
    have d1' : zg_Cover_comparedOfAll_4 X 109 0 0 (zM b I1 J1) = _ := d1
    have d3' : zg_Cover_piecesOfAll_4 X 109 0 0 (zM b I2 J1) = _ := d3
    have step : ∀ r, (if Int32.ofNat e = 0 then zg_GP_bestSlack_97 X 0 l1 (Int32.ofNat e) (Int32.ofNat (zsp f n u e)) (zM b I2 J1) else if few ≤ Int32.ofNat (zsp f n u e) then zg_GP_bestSlack_103 X 0 l1 best few (Int32.ofNat e) (zM b I2 J1) else zg_GP_bestSlack_97 X 0 l1 (Int32.ofNat e) (Int32.ofNat (zsp f n u e)) (zM b I2 J1)) = r → zg_GP_bestSlack_22 X 0 l1 best few (Int32.ofNat e) (zM b I J) = r := fun r hr => by
      rw [← hr, zg_GP_bestSlack_22_e, (zox X).2, if_neg (fun q => absurd ((zkg20 (by omega)).mp q) (by omega))]
      simp only [zM_I, zM_J, zM_P, zM_wI, zM_wL, zrf, zo0, zo1, zo2, zo7, zo10, zo12, zo16, zo17, zo22, zo25, zo27, zo31, zo33, zo40, zo42, zo43, zo46, zo109, zo111, zo112, zo115, zo178, zo181, zp0_0, zp0_1, zp0_3, zp0_4, zp0_5, zp0_6, zp0_7, zp1_0, zp1_1, zp1_3, zp1_5, zp1_6, zp1_7, zp2_0, zp2_1, zp7_0, zp7_1, zp10_0, zp12_0, zp12_1, zp12_3, zp16_0, zp16_1, zp16_3, zp16_5, zp16_6, zp16_7, zp17_0, zp17_1, zp22_0, zp22_1, zp25_0, zp27_0, zp27_1, zp27_3, zp31_0, zp31_2, zp31_3, zp31_6, zp31_7, zp31_8, zp33_0, zp33_1, zp40_0, zp40_1, zp42_0, zp42_1, zp43_0, zp43_1, zp46_0, zp46_1, zp109_0, zp109_1, zp111_0, zp111_1, zp112_0, zp112_1, zp115_0, zp115_1, zp178_0, zp181_0, zp181_1, zp181_2, zp181_4, zp181_5, zp181_6, zp181_17, zp181_18, zp181_19, zp181_20, zp181_21, zp181_22, zp181_23, zp181_24, zp181_31, zp181_32, zx3, zx4, zx5, zx6, zx8, zx9, zx11, zx13, zx14, zx15, zx18, zx19, zx20, zx21, zx23, zx24, zx26, zx28, zx29, zx30, zx32, zx34, zx35, zx36, zx37, zx38, zx39, zx44, zx45, zx47, zx48, zx113, zx114, zx116, zx117, zx179, zx180, zx182, zx183, zx184, zx185, zx186, zx187, zx253, zx254, zx255, zx256, zx257, zx182, zw_0, zw_1, zw_2, zw_3, zw_4, zw_5, zw_6, zw_7, zw_8, zw_9, zw_10, zw_11, zw_12, zw_13, zw_14, zx6_0, zx6_1, zx6_2, zx6_3, zx6_4, zx6_5, zx6_6, zx6_7, zx21_0, zx21_1, zx21_2, zx21_3, zx21_4, zx21_5, zx21_6, zx21_7, zx36_0, zx36_1, zx36_2, zx36_3, zx36_4, zx36_5, zx36_6, zx36_7, zka0, zkb0, zks0, zkt0, zkl0, zkn0, zkg0, zkh0, zke0, zkf0, zka1, zkb1, zks1, zkt1, zkl1, zkn1, zkg1, zkh1, zke1, zkf1, zka2, zkb2, zks2, zkt2, zkl2, zkn2, zkg2, zkh2, zke2, zkf2, zka3, zkb3, zks3, zkt3, zkl3, zkn3, zkg3, zkh3, zke3, zkf3, zka4, zkb4, zks4, zkt4, zkl4, zkn4, zkg4, zkh4, zke4, zkf4, zka5, zkb5, zks5, zkt5, zkl5, zkn5, zkg5, zkh5, zke5, zkf5, zka6, zkb6, zks6, zkt6, zkl6, zkn6, zkg6, zkh6, zke6, zkf6, zka7, zkb7, zks7, zkt7, zkl7, zkn7, zkg7, zkh7, zke7, zkf7, zka8, zkb8, zks8, zkt8, zkl8, zkn8, zkg8, zkh8, zke8, zkf8, zka9, zkb9, zks9, zkt9, zkl9, zkn9, zkg9, zkh9, zke9, zkf9, zka10, zkb10, zks10, zkt10, zkl10, zkn10, zkg10, zkh10, zke10, zkf10, zka11, zkb11, zks11, zkt11, zkl11, zkn11, zkg11, zkh11, zke11, zkf11, zka12, zkb12, zks12, zkt12, zkl12, zkn12, zkg12, zkh12, zke12, zkf12, zka13, zkb13, zks13, zkt13, zkl13, zkn13, zkg13, zkh13, zke13, zkf13, zka14, zkb14, zks14, zkt14, zkl14, zkn14, zkg14, zkh14, zke14, zkf14, zka15, zkb15, zks15, zkt15, zkl15, zkn15, zkg15, zkh15, zke15, zkf15, zka16, zkb16, zks16, zkt16, zkl16, zkn16, zkg16, zkh16, zke16, zkf16, zka19, zkb19, zks19, zkt19, zkl19, zkn19, zkg19, zkh19, zke19, zkf19, zka20, zkb20, zks20, zkt20, zkl20, zkn20, zkg20, zkh20, zke20, zkf20, zka24, zkb24, zks24, zkt24, zkl24, zkn24, zkg24, zkh24, zke24, zkf24, zka27, zkb27, zks27, zkt27, zkl27, zkn27, zkg27, zkh27, zke27, zkf27, zka31, zkb31, zks31, zkt31, zkl31, zkn31, zkg31, zkh31, zke31, zkf31, zka32, zkb32, zks32, zkt32, zkl32, zkn32, zkg32, zkh32, zke32, zkf32, zka40, zkb40, zks40, zkt40, zkl40, zkn40, zkg40, zkh40, zke40, zkf40, zka48, zkb48, zks48, zkt48, zkl48, zkn48, zkg48, zkh48, zke48, zkf48, zka50, zkb50, zks50, zkt50, zkl50, zkn50, zkg50, zkh50, zke50, zkf50, zka60, zkb60, zks60, zkt60, zkl60, zkn60, zkg60, zkh60, zke60, zkf60, zka64, zkb64, zks64, zkt64, zkl64, zkn64, zkg64, zkh64, zke64, zkf64, zka99, zkb99, zks99, zkt99, zkl99, zkn99, zkg99, zkh99, zke99, zkf99, zka100, zkb100, zks100, zkt100, zkl100, zkn100, zkg100, zkh100, zke100, zkf100, zka300, zkb300, zks300, zkt300, zkl300, zkn300, zkg300, zkh300, zke300, zkf300, zka302, zkb302, zks302, zkt302, zkl302, zkn302, zkg302, zkh302, zke302, zkf302, zka320, zkb320, zks320, zkt320, zkl320, zkn320, zkg320, zkh320, zke320, zkf320, zka512, zkb512, zks512, zkt512, zkl512, zkn512, zkg512, zkh512, zke512, zkf512, zka599, zkb599, zks599, zkt599, zkl599, zkn599, zkg599, zkh599, zke599, zkf599, zka600, zkb600, zks600, zkt600, zkl600, zkn600, zkg600, zkh600, zke600, zkf600, zka601, zkb601, zks601, zkt601, zkl601, zkn601, zkg601, zkh601, zke601, zkf601, zka620, zkb620, zks620, zkt620, zkl620, zkn620, zkg620, zkh620, zke620, zkf620, zka920, zkb920, zks920, zkt920, zkl920, zkn920, zkg920, zkh920, zke920, zkf920, zka999, zkb999, zks999, zkt999, zkl999, zkn999, zkg999, zkh999, zke999, zkf999, zka1000, zkb1000, zks1000, zkt1000, zkl1000, zkn1000, zkg1000, zkh1000, zke1000, zkf1000, zka1024, zkb1024, zks1024, zkt1024, zkl1024, zkn1024, zkg1024, zkh1024, zke1024, zkf1024, zka1220, zkb1220, zks1220, zkt1220, zkl1220, zkn1220, zkg1220, zkh1220, zke1220, zkf1220, zka1260, zkb1260, zks1260, zkt1260, zkl1260, zkn1260, zkg1260, zkh1260, zke1260, zkf1260, zka1300, zkb1300, zks1300, zkt1300, zkl1300, zkn1300, zkg1300, zkh1300, zke1300, zkf1300, zka1500, zkb1500, zks1500, zkt1500, zkl1500, zkn1500, zkg1500, zkh1500, zke1500, zkf1500, zka1540, zkb1540, zks1540, zkt1540, zkl1540, zkn1540, zkg1540, zkh1540, zke1540, zkf1540, zka1604, zkb1604, zks1604, zkt1604, zkl1604, zkn1604, zkg1604, zkh1604, zke1604, zkf1604, zka1668, zkb1668, zks1668, zkt1668, zkl1668, zkn1668, zkg1668, zkh1668, zke1668, zkf1668, zka2000, zkb2000, zks2000, zkt2000, zkl2000, zkn2000, zkg2000, zkh2000, zke2000, zkf2000, zka4999, zkb4999, zks4999, zkt4999, zkl4999, zkn4999, zkg4999, zkh4999, zke4999, zkf4999, zka5000, zkb5000, zks5000, zkt5000, zkl5000, zkn5000, zkg5000, zkh5000, zke5000, zkf5000, zkm1, zn_add, zn_add1, zn_sub, zn_sub1, zn_mul, zn_lt, zn_le, zn_eq, zci, zcl, zcr, zcv, zrb0, zrb1, if_pos, if_neg, if_true, if_false, h1, h2, a1, zg_Cover_comparedOfAll_0_e, d1', zg_Cover_piecesOfAll_0_e, d3', (zox X).1, hsp]
    apply step
    rw [zg_GP_bestSlack_97_e, zg_GP_bestSlack_103_e, zg_GP_bestSlack_103_e, zn_add1]
    rcases Nat.eq_zero_or_pos e with c0 | c0
    · subst c0
      rw [if_pos (show Int32.ofNat 0 = 0 from rfl)]
      exact g1 _ _ (fun _ => ⟨rfl, rfl⟩)
    · obtain ⟨q1, q2⟩ := hb c0
      have hbd := zBS_lt (u := u) hu hn (e - 1)
      rw [if_neg (fun q => absurd ((zke0 (by omega)).mp q) (by omega)), q2]
      have es : e + 1 - 1 = (e - 1) + 1 := by omega
      have e1 : e - 1 + 1 = e := by omega
      have hB : zBS f n u (e + 1 - 1) = if zsp f n u e < (zBS f n u (e - 1)).2 then (e, zsp f n u e) else zBS f n u (e - 1) := by
        rw [es, zBS, e1]
      by_cases c : zsp f n u e < (zBS f n u (e - 1)).2
      · rw [if_pos c] at hB
        rw [if_neg (fun q => absurd ((zn_le (by omega) (by omega)).mp q) (by omega))]
        exact g1 _ _ (fun _ => by rw [hB]; exact ⟨rfl, rfl⟩)
      · rw [if_neg c] at hB
        rw [if_pos ((zn_le (by omega) (by omega)).mpr (by omega)), q1]
        exact g1 _ _ (fun _ => by rw [hB]; exact ⟨rfl, rfl⟩)
noncomputable def zbsA (f : Nat → Int) (n u : Nat) (w : Int32) : Int32 := if w = 0 then Int32.ofNat (zBS f n u 20).1 else if w = 1 then Int32.ofNat (zBS f n u 20).2 else -1
theorem c_bestSlack {I : zI} {n u : Nat} {f : Nat → Int} {w : Int32} (hf : zfb f) (hu : zupto f n) (hn : n ≤ 300) (hu20 : u ≤ 20) (h1 : I 1 2 = Int32.ofNat n) (h2 : I 6 1 = Int32.ofNat u) (hr : ∀ i, i < n → (I 5 i).toInt = f i) : ∃ I' J', zg_GP_bestSlack_0 X 0 w (zM b I J) = some (some (.int (zbsA f n u w)), zM b I' J') ∧ ∀ a, (a < 109 ∨ 177 < a) → I' a = I a ∧ J' a = J a := by
  obtain ⟨I1, J1, g1, g2⟩ := c_bs22 X (b := b) (l1 := w) hf hu hn hu20 21 0 I J (by decide) h1 h2 hr
  have g1' : zg_GP_bestSlack_22 X 0 w 0 0 0 (zM b I J) = _ := g1 0 0 (fun h => by omega)
  unfold zbsA
  rw [zg_GP_bestSlack_0_e, zg_GP_bestSlack_11_e, (zox X).1, g1', zg_GP_bestSlack_109_e, zg_GP_bestSlack_117_e, zg_GP_bestSlack_118_e, zg_GP_bestSlack_118_e]
  by_cases c0 : w = 0
  · simp only [if_pos c0]
    exact ⟨I1, J1, rfl, g2⟩
  · by_cases c1 : w = 1
    · simp only [if_neg c0, if_pos c1]
      exact ⟨I1, J1, rfl, g2⟩
    · simp only [if_neg c0, if_neg c1]
      exact ⟨I, J, rfl, fun _ _ => ⟨rfl, rfl⟩⟩
theorem m_bs49 {I : zI} {n e u H : Nat} {f : Nat → Int} {l1 l2 l3 l4 : Int32} (hu : zupto f n) (hn : n ≤ 300) (hC : zMCov I J f n e u H) : ∀ m l, l + m = H → zg_M_bestSlack_49 X 181 l1 l2 l3 l4 (Int32.ofNat (zPs f n e u l)) (Int32.ofNat l) (zM b I J) = zg_M_bestSlack_79 X 181 l1 l2 l3 l4 (Int32.ofNat (zPs f n e u H)) 0 (zM b I J) := by
  have hH9 := zHt_9 hu hn hC.2.1
  intro m
  induction m with
  | zero =>
    intro l hl
    have : l = H := by omega
    subst this
    rw [zg_M_bestSlack_49_e, zo181, zM_I, hC.1, if_pos ((zn_le (by omega) (by omega)).mpr (Nat.le_refl _)), zg_M_bestSlack_76_e]
  | succ m ih =>
    intro l hl
    have hp : I 254 l = Int32.ofNat (zTn f n e u (l + 1)) := by rw [zTn_s]; exact (hC.2.2.2 l (by omega)).2.2.1
    rw [zg_M_bestSlack_49_e, zo181, zM_I, hC.1, if_neg (fun q => absurd ((zn_le (by omega) (by omega)).mp q) (by omega)), zo181, zM_P, zp181_23, zrf, zx254 (by omega), hp, zn_add, zn_add1, ← zPs, ih (l + 1) (by omega)]
theorem m_bs79 {R : List Int32} {e u H : Nat} {P : Nat} (hf : zfb (zrf' R)) (hu : zupto (zrf' R) R.length) (hn : R.length ≤ 300) (he20 : e ≤ 20) (hu20 : u ≤ 20) : ∀ (m i : Nat) (I : zI), i + m = R.length → zMCov I J (zrf' R) R.length e u H → I 182 8 = Int32.ofNat R.length → zrow (fun k => I 182 (20 + k)) R → ∃ I', (∀ l1 l2 l3 l4 : Int32, zg_M_bestSlack_79 X 181 l1 l2 l3 l4 (Int32.ofNat (P + zCs (zrf' R) R.length e u H i)) (Int32.ofNat i) (zM b I J) = zg_M_bestSlack_121 X 181 l1 l2 l3 l4 (Int32.ofNat (P + zCs (zrf' R) R.length e u H R.length)) (zM b I' J)) ∧ zonly 181 30 I I' := by
  intro m
  induction m with
  | zero =>
    intro i I hi hC h8 hr
    have : i = R.length := by omega
    subst this
    refine ⟨I, fun l1 l2 l3 l4 => ?_, fun _ _ => rfl, fun _ _ => rfl⟩
    rw [zg_M_bestSlack_79_e, zo181, zM_P, zp181_0, zrf, zw_8, zM_I, h8, if_pos ((zn_le (by omega) (by omega)).mpr (Nat.le_refl _))]
  | succ m ih =>
    intro i I hi hC h8 hr
    have hil : i < R.length := by omega
    have hv : I 182 (20 + i) = R[i] := hr i _ (by simp [hil])
    have hx : (I 182 (20 + i)).toInt = zrf' R i := by
      rw [hv]
      show R[i].toInt = (R.getD i 0).toInt
      simp [hil]
    obtain ⟨I1, f1, f2, f3⟩ := m_seeks X (b := b) (x := I 182 (20 + i)) hf hu hn he20 hu20 hC
    rw [hx] at f1 f2
    obtain ⟨I2, g1, g2⟩ := ih (i + 1) I1 (by omega) (zMCov_only hC f3) (by rw [f3.2 182 (by decide)]; exact h8) (by rw [f3.2 182 (by decide)]; exact hr)
    refine ⟨I2, fun l1 l2 l3 l4 => ?_, zonly_tr f3 g2⟩
    rw [← g1, zCs, ← Nat.add_assoc, ← zn_add (P + zCs (zrf' R) R.length e u H i), zg_M_bestSlack_79_e, zo181, zM_P, zp181_0, zrf, zw_8, zM_I, h8, if_neg (fun q => absurd ((zn_le (by omega) (by omega)).mp q) (by omega)), zo181, zrf, zka20, zx182 (by omega), zo181, f1, zci, zo181, zM_I, f2, zn_add1]
theorem m_bs30 {R : List Int32} {w0 u : Nat} {l1 : Int32} : ∀ (m e : Nat) (I : zI) (J : zJ), e + m = 21 → zRow I R w0 u → ∃ I' J', (∀ best few, (e = 0 → best = -1) → (1 ≤ e → best = Int32.ofNat (zBS (zrf' R) R.length u (e - 1)).1 ∧ few = Int32.ofNat (zBS (zrf' R) R.length u (e - 1)).2) → zg_M_bestSlack_30 X 181 l1 best few (Int32.ofNat e) (zM b I J) = zg_M_bestSlack_147 X l1 (Int32.ofNat (zBS (zrf' R) R.length u 20).1) (Int32.ofNat (zBS (zrf' R) R.length u 20).2) (zM b I' J')) ∧ zfrM I I' J J' := by
  intro m
  induction m with
  | zero =>
    intro e I J he h
    refine ⟨I, J, fun best few _ hb => ?_, fun _ _ => ⟨rfl, rfl⟩, fun _ _ _ => rfl, fun _ _ _ => rfl⟩
    obtain ⟨b1, b2⟩ := hb (by omega)
    rw [zg_M_bestSlack_30_e, if_pos ((zkg20 (by omega)).mpr (by omega)), b1, b2, show e - 1 = 20 by omega]
  | succ m ih =>
    intro e I J he h
    obtain ⟨I1, J1, H, a1, a2, a3⟩ := m_row X (b := b) (J := J) h e (by omega)
    have hu := h.2.2.2.2.2.2.2.2
    have hf := h.2.2.2.2.2.2.2.1
    have hn := h.1
    have hu20 := h.2.2.2.2.2.2.1
    have hH9 := zHt_9 hu hn a2.2.1
    have c182 : I1 182 = I 182 := a3.2.1 182 (by decide) (by decide)
    obtain ⟨I2, d1, d2⟩ := m_bs79 X (b := b) (J := J1) (R := R) (e := e) (u := u) (H := H) (P := zPs (zrf' R) R.length e u H) hf hu hn (by omega) hu20 R.length 0 I1 (by omega) a2 (by rw [c182]; exact h.2.1) (by rw [c182]; exact h.2.2.1)
    have fr : zfrM I I2 J J1 := zfrM_only (zfM_frM a3) d2
    have c182' : I2 182 = I 182 := fr.2.1 182 (by decide) (by decide)
    have h2 : zRow I2 R w0 u := by
      unfold zRow at *
      rw [c182']; exact h
    obtain ⟨I3, J3, g1, g2⟩ := ih (e + 1) I2 J1 (by omega) h2
    have frt : ∀ {I I' I'' : zI} {J J' J'' : zJ}, zfrM I I' J J' → zfrM I' I'' J' J'' → zfrM I I'' J J'' := fun h h' => ⟨fun a ha => ⟨(h'.1 a ha).1.trans (h.1 a ha).1, (h'.1 a ha).2.trans (h.1 a ha).2⟩, fun a h1 h2 => (h'.2.1 a h1 h2).trans (h.2.1 a h1 h2), fun j h1 h2 => (h'.2.2 j h1 h2).trans (h.2.2 j h1 h2)⟩
    refine ⟨I3, J3, fun best few h0 hb => ?_, frt fr g2⟩
    have hsp := zsp_eq a2.2.1
    have hlt := zsp_lt (e := e) (u := u) hu hn
    have hP : zPs (zrf' R) R.length e u H + zCs (zrf' R) R.length e u H R.length = zsp (zrf' R) R.length u e := by rw [hsp]; omega
    have d1' := d1 l1 best few (Int32.ofNat e)
    rw [hP] at d1'
    have d49 := m_bs49 X (b := b) (l1 := l1) (l2 := best) (l3 := few) (l4 := Int32.ofNat e) hu hn a2 H 0 (by omega)
    have d49' : zg_M_bestSlack_49 X 181 l1 best few (Int32.ofNat e) 0 0 (zM b I1 J1) = _ := d49
    have d79 : zg_M_bestSlack_79 X 181 l1 best few (Int32.ofNat e) (Int32.ofNat (zPs (zrf' R) R.length e u H)) 0 (zM b I1 J1) = _ := d1'
    rw [zg_M_bestSlack_30_e, if_neg (fun q => absurd ((zkg20 (by omega)).mp q) (by omega)), zo181, a1, zcv, d49', d79, zg_M_bestSlack_121_e, zg_M_bestSlack_135_e, zg_M_bestSlack_141_e, zg_M_bestSlack_141_e, zn_add1]
    rcases Nat.eq_zero_or_pos e with c0 | c0
    · rw [if_pos (h0 c0)]
      subst c0
      exact g1 _ _ (fun h => by omega) (fun _ => ⟨rfl, rfl⟩)
    · obtain ⟨q1, q2⟩ := hb c0
      have hbd := zBS_lt (u := u) hu hn (e - 1)
      have em : (-1 : Int32).toInt = -1 := rfl
      have hne : ¬ best = -1 := fun q => by
        rw [q1, zi_eq, em, zn_int (by omega)] at q; omega
      rw [if_neg hne, q2]
      have es : e + 1 - 1 = (e - 1) + 1 := by omega
      have e1 : e - 1 + 1 = e := by omega
      have hB : zBS (zrf' R) R.length u (e + 1 - 1) = if zsp (zrf' R) R.length u e < (zBS (zrf' R) R.length u (e - 1)).2 then (e, zsp (zrf' R) R.length u e) else zBS (zrf' R) R.length u (e - 1) := by
        rw [es, zBS, e1]
      by_cases c : zsp (zrf' R) R.length u e < (zBS (zrf' R) R.length u (e - 1)).2
      · rw [if_pos c] at hB
        rw [if_pos ((zn_lt (by omega) (by omega)).mpr c)]
        exact g1 _ _ (fun h => by omega) (fun _ => by rw [hB]; exact ⟨rfl, rfl⟩)
      · rw [if_neg c] at hB
        rw [if_neg (fun q => c ((zn_lt (by omega) (by omega)).mp q)), q1]
        exact g1 _ _ (fun h => by omega) (fun _ => by rw [hB]; exact ⟨rfl, rfl⟩)
theorem zBS_0 {f : Nat → Int} {u : Nat} : ∀ k, zBS f 0 u k = (0, 0) := by
  have h0 : ∀ e, zsp f 0 u e = 0 := fun e => by
    rw [zsp_eq (H := 0) (Or.inl ⟨rfl, rfl⟩)]; rfl
  intro k
  induction k with
  | zero => rw [zBS, h0]
  | succ k ih => rw [zBS, ih, h0, if_neg (by decide)]
theorem m_bestSlack {I : zI} {R : List Int32} {e u : Nat} {w : Int32} (h : zRow I R e u) : ∃ I' J', zg_M_bestSlack_0 X 181 w (zM b I J) = some (some (.int (zbsA (zrf' R) R.length u w)), zM b I' J') ∧ zfrM I I' J J' := by
  obtain ⟨I1, J1, g1, g2⟩ := m_bs30 X (b := b) (l1 := w) 21 0 I J (by decide) h
  have g1' : zg_M_bestSlack_30 X 181 w (-1) 0 0 (zM b I J) = _ := g1 (-1) 0 (fun _ => rfl) (fun h => by omega)
  have hn := h.1
  have e0 : (0 : Int32).toInt = 0 := rfl
  have e1 : (1 : Int32).toInt = 1 := rfl
  unfold zbsA
  rw [zg_M_bestSlack_0_e, m_isIn, zci, zif01, zg_M_bestSlack_11_e, zo181, zM_P, zp181_0, zrf, zw_8, zM_I, h.2.1, zg_M_bestSlack_23_e, g1', zg_M_bestSlack_147_e, zg_M_bestSlack_155_e, zg_M_bestSlack_156_e, zg_M_bestSlack_156_e]
  have nz : w = 0 ∨ w = 1 → ¬ (w < 0 ∨ 1 < w) := by
    rintro (h | h) <;> rw [h] <;> decide
  have rest : (w = 0 ∨ w = 1) → ∃ I' J', (if Int32.ofNat R.length = 0 then some (some (Value.int 0), zM b I J) else if w = 0 then some (some (Value.int (Int32.ofNat (zBS (zrf' R) R.length u 20).1)), zM b I1 J1) else some (some (Value.int (Int32.ofNat (zBS (zrf' R) R.length u 20).2)), zM b I1 J1)) = some (some (Value.int (if w = 0 then Int32.ofNat (zBS (zrf' R) R.length u 20).1 else if w = 1 then Int32.ofNat (zBS (zrf' R) R.length u 20).2 else -1)), zM b I' J') ∧ zfrM I I' J J' := fun hw => by
    by_cases c : R.length = 0
    · refine ⟨I, J, ?_, fun _ _ => ⟨rfl, rfl⟩, fun _ _ _ => rfl, fun _ _ _ => rfl⟩
      rw [if_pos ((zke0 (by omega)).mpr c), c, zBS_0]
      rcases hw with hw | hw
      · rw [if_pos hw]; rfl
      · rw [if_neg (by rw [hw]; decide), if_pos hw]; rfl
    · rw [if_neg (fun q => c ((zke0 (by omega)).mp q))]
      refine ⟨I1, J1, ?_, g2⟩
      rcases hw with hw | hw
      · rw [if_pos hw, if_pos hw]
      · rw [if_neg (by rw [hw]; decide), if_neg (by rw [hw]; decide), if_pos hw]
  by_cases c0 : w = 0 ∨ w = 1
  · rw [if_neg (nz c0)]
    exact rest c0
  · have c1 : w < 0 ∨ 1 < w := by
      rw [zi_eq, zi_eq, e0, e1] at c0
      rw [zi_lt, zi_lt, e0, e1]; omega
    refine ⟨I, J, ?_, fun _ _ => ⟨rfl, rfl⟩, fun _ _ _ => rfl, fun _ _ _ => rfl⟩
    rw [if_pos c1, if_neg (fun q => c0 (Or.inl q)), if_neg (fun q => c0 (Or.inr q))]
end ZBS
