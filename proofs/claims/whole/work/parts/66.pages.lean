/-! pages -/
noncomputable def zpg (f : Nat → Int) (n e H by_ : Nat) (i : Nat) : Int32 := ((Int32.ofNat (min (n - 1) (zgi f n e i + e)) / Int32.ofNat by_ - Int32.ofNat (zgi f n e i - e) / Int32.ofNat by_) + 1) + Int32.ofNat H
noncomputable def zPg (f : Nat → Int) (n e H by_ : Nat) : Nat → Int32
  | 0 => 0
  | i + 1 => zPg f n e H by_ i + zpg f n e H by_ i
section ZPP
variable (X : zv_X) {b : Bool} {I : zI} {J : zJ}
theorem c_pg37 {cv lv cap n e k H by_ : Nat} {f : Nat → Int} (hcv : zSH[cv]? = some (.inr 1)) (hH : I cv 2 = Int32.ofNat H) (hs : zLs b lv cap) (hn : n ≤ cap) (hn3 : n ≤ 300) (he : e ≤ 20) (hb : 1 ≤ by_ ∧ by_ ≤ 99) (hu : zupto f n) (hf : zfb f) (h : zLv I J lv f n e) (hk : k < zNp f n e) : ∀ m i, i + m = zF f n e (k + 1) → zF f n e k ≤ i → zg_Cover_pagesOfAll_37 X cv lv (Int32.ofNat by_) (zPg f n e H by_ i) (Int32.ofNat k) (Int32.ofNat i) (zM b I J) = zg_Cover_pagesOfAll_121 X cv lv (Int32.ofNat by_) (zPg f n e H by_ (zF f n e (k + 1))) (Int32.ofNat k) (zM b I J) := by
  have hle := zF_le f n e (k + 1)
  have hl := c_lastOf X (b := b) hs hn hu h hk
  have hmono := zF_mono (f := f) (n := n) (e := e) (show k < k + 1 by omega) (by omega)
  have hcap := hs.2.2.2.2.2.2.2.2.2.2.2
  have hb0 : ¬ Int32.ofNat by_ = 0 := fun q => absurd ((zke0 (by omega)).mp q) (by omega)
  intro m
  induction m with
  | zero =>
    intro i hi h1
    have : i = zF f n e (k + 1) := by omega
    subst this
    rw [zg_Cover_pagesOfAll_37_e, zob hs.1, hl, zci, if_pos ((zn_lt (by omega) (by omega)).mpr (by omega))]
  | succ m ih =>
    intro i hi h1
    have hpc : zpcI f n e i = k := zpcI_eq hk h1 (by omega)
    have hrow := h.2.2.2.1 i (by omega)
    have hg := c_guess X (b := b) (x := I (lv + 1) i) hs hn hn3 he hu hf h hk
    rw [hrow, show zgk f n e k (f i) = zgi f n e i by unfold zgi; rw [hpc]] at hg
    have hgl : zgi f n e i ≤ n := zgk_le
    have ih' := ih (i + 1) (by omega) (by omega)
    have emax : zg_Math_max0_0 X 0 (Int32.ofNat (zgi f n e i) - Int32.ofNat e) (zM b I J) = some (some (.int (Int32.ofNat (zgi f n e i - e))), zM b I J) := by
      have e0 : (0 : Int32).toInt = 0 := rfl
      have i1 : (Int32.ofNat (zgi f n e i) - Int32.ofNat e).toInt = (zgi f n e i : Int) - e := by
        rw [zi_sub (by rw [zn_int (by omega), zn_int (by omega)]; omega) (by rw [zn_int (by omega), zn_int (by omega)]; omega), zn_int (by omega), zn_int (by omega)]
      rw [s_max]
      congr 4
      rw [zi_eq, zn_int (by omega)]
      split
      · rename_i hh
        rw [zi_lt, e0, i1] at hh
        rw [i1]; omega
      · rename_i hh
        rw [zi_lt, e0, i1] at hh
        rw [e0]; omega
    rw [zg_Cover_pagesOfAll_37_e, zob hs.1, hl, zci, if_neg (fun q => absurd ((zn_lt (by omega) (by omega)).mp q) (by omega)), zob hs.1, zM_P, hs.2.2.2.2.2.2.1, zrf, zix hs.2.1 (by omega) (by omega), zM_I, zob hs.1, hg, zci, zob hs.1, zM_I, h.2.1, emax, zci, if_neg hb0, zob hs.1, zob hs.1, zM_I, h.1, h.2.1, zn_sub1 (by omega), zn_add, s_minN X _ _ _ (by omega) (by omega), zci, if_neg hb0, zob hcv, zM_I, hH, zn_add1]
    exact ih'
theorem c_pg19 {cv lv cap n e H by_ : Nat} {f : Nat → Int} (hcv : zSH[cv]? = some (.inr 1)) (hH : I cv 2 = Int32.ofNat H) (hs : zLs b lv cap) (hn : n ≤ cap) (hn3 : n ≤ 300) (he : e ≤ 20) (hb : 1 ≤ by_ ∧ by_ ≤ 99) (hu : zupto f n) (hf : zfb f) (h : zLv0 I J lv f n e) : ∀ m k, k + m = zNp f n e → zg_Cover_pagesOfAll_19 X cv lv (Int32.ofNat by_) (zPg f n e H by_ (zF f n e k)) (Int32.ofNat k) (zM b I J) = some (some (.int (zPg f n e H by_ n)), zM b I J) := by
  have hhalf := zNp_half (e := e) hu
  have hcap := hs.2.2.2.2.2.2.2.2.2.2.2
  intro m
  induction m with
  | zero =>
    intro k hk
    have : k = zNp f n e := by omega
    subst this
    rw [zg_Cover_pagesOfAll_19_e, zob hs.1, zM_I, h.2.2.1, if_pos ((zn_le (by omega) (by omega)).mpr (Nat.le_refl _)), (zNp_spec f n e).1, zg_Cover_pagesOfAll_127_e]
  | succ m ih =>
    intro k hk
    have hkN : k < zNp f n e := by omega
    have h' := zLv0_to h (by omega)
    have q1 := (h.2.2.2.2 k hkN).1
    have hmono := zF_mono (f := f) (n := n) (e := e) (show k < k + 1 by omega) (by omega)
    rw [zg_Cover_pagesOfAll_19_e, zob hs.1, zM_I, h.2.2.1, if_neg (fun q => absurd ((zn_le (by omega) (by omega)).mp q) (by omega)), zob hs.1, zM_P, hs.2.2.2.2.2.2.2.1, zrf, zix hs.2.2.1 (by omega) (by omega), q1, c_pg37 X hcv hH hs hn hn3 he hb hu hf h' hkN (zF f n e (k + 1) - zF f n e k) _ (by omega) (Nat.le_refl _), zg_Cover_pagesOfAll_121_e, zn_add1, ih (k + 1) (by omega)]
/-- a tree's height: both loops run alike -/
theorem z_tree {n o : Nat} (hn : n ≤ 300) (ho : 2 ≤ o ∧ o ≤ 99) (hI1 : I 1 2 = Int32.ofNat n) (hI2 : I 6 4 = Int32.ofNat o) : ∀ (m h v : Nat) (l2 : Int64), l2.toInt = v → 1 ≤ v → v ≤ 300 * 99 → h + m ≤ 20 → n ≤ v * 2 ^ m → ∃ r : Int32, zg_GP_treeHeight_4 X 0 (Int32.ofNat h) l2 (zM b I J) = some (some (.int r), zM b I J) ∧ ∀ I' J', I' 182 4 = Int32.ofNat o → zg_M_pages_29 X 181 (Int32.ofNat n) (Int32.ofNat h) l2 (zM b I' J') = some (some (.int (Int32.ofNat n * (r + 1))), zM b I' J') := by
  have en : (Int32.toInt64 (Int32.ofNat n)).toInt = n := by rw [Int32.toInt_toInt64, zn_int (by omega)]
  have eo : (Int32.toInt64 (Int32.ofNat o)).toInt = o := by rw [Int32.toInt_toInt64, zn_int (by omega)]
  have done : ∀ (h v : Nat) (l2 : Int64), l2.toInt = v → n ≤ v → ∃ r : Int32, zg_GP_treeHeight_4 X 0 (Int32.ofNat h) l2 (zM b I J) = some (some (.int r), zM b I J) ∧ ∀ I' J', I' 182 4 = Int32.ofNat o → zg_M_pages_29 X 181 (Int32.ofNat n) (Int32.ofNat h) l2 (zM b I' J') = some (some (.int (Int32.ofNat n * (r + 1))), zM b I' J') := fun h v l2 hl hv => by
    refine ⟨Int32.ofNat h, ?_, fun I' J' _ => ?_⟩
    · rw [zg_GP_treeHeight_4_e]
      simp only [zM_I, zM_J, zM_P, zM_wI, zM_wL, zrf, zo0, zo1, zo2, zo7, zo10, zo12, zo16, zo17, zo22, zo25, zo27, zo31, zo33, zo40, zo42, zo43, zo46, zo109, zo111, zo112, zo115, zo178, zo181, zp0_0, zp0_1, zp0_3, zp0_4, zp0_5, zp0_6, zp0_7, zp1_0, zp1_1, zp1_3, zp1_5, zp1_6, zp1_7, zp2_0, zp2_1, zp7_0, zp7_1, zp10_0, zp12_0, zp12_1, zp12_3, zp16_0, zp16_1, zp16_3, zp16_5, zp16_6, zp16_7, zp17_0, zp17_1, zp22_0, zp22_1, zp25_0, zp27_0, zp27_1, zp27_3, zp31_0, zp31_2, zp31_3, zp31_6, zp31_7, zp31_8, zp33_0, zp33_1, zp40_0, zp40_1, zp42_0, zp42_1, zp43_0, zp43_1, zp46_0, zp46_1, zp109_0, zp109_1, zp111_0, zp111_1, zp112_0, zp112_1, zp115_0, zp115_1, zp178_0, zp181_0, zp181_1, zp181_2, zp181_4, zp181_5, zp181_6, zp181_17, zp181_18, zp181_19, zp181_20, zp181_21, zp181_22, zp181_23, zp181_24, zp181_31, zp181_32, zx3, zx4, zx5, zx6, zx8, zx9, zx11, zx13, zx14, zx15, zx18, zx19, zx20, zx21, zx23, zx24, zx26, zx28, zx29, zx30, zx32, zx34, zx35, zx36, zx37, zx38, zx39, zx44, zx45, zx47, zx48, zx113, zx114, zx116, zx117, zx179, zx180, zx182, zx183, zx184, zx185, zx186, zx187, zx253, zx254, zx255, zx256, zx257, zx182, zw_0, zw_1, zw_2, zw_3, zw_4, zw_5, zw_6, zw_7, zw_8, zw_9, zw_10, zw_11, zw_12, zw_13, zw_14, zx6_0, zx6_1, zx6_2, zx6_3, zx6_4, zx6_5, zx6_6, zx6_7, zx21_0, zx21_1, zx21_2, zx21_3, zx21_4, zx21_5, zx21_6, zx21_7, zx36_0, zx36_1, zx36_2, zx36_3, zx36_4, zx36_5, zx36_6, zx36_7, zka0, zkb0, zks0, zkt0, zkl0, zkn0, zkg0, zkh0, zke0, zkf0, zka1, zkb1, zks1, zkt1, zkl1, zkn1, zkg1, zkh1, zke1, zkf1, zka2, zkb2, zks2, zkt2, zkl2, zkn2, zkg2, zkh2, zke2, zkf2, zka3, zkb3, zks3, zkt3, zkl3, zkn3, zkg3, zkh3, zke3, zkf3, zka4, zkb4, zks4, zkt4, zkl4, zkn4, zkg4, zkh4, zke4, zkf4, zka5, zkb5, zks5, zkt5, zkl5, zkn5, zkg5, zkh5, zke5, zkf5, zka6, zkb6, zks6, zkt6, zkl6, zkn6, zkg6, zkh6, zke6, zkf6, zka7, zkb7, zks7, zkt7, zkl7, zkn7, zkg7, zkh7, zke7, zkf7, zka8, zkb8, zks8, zkt8, zkl8, zkn8, zkg8, zkh8, zke8, zkf8, zka9, zkb9, zks9, zkt9, zkl9, zkn9, zkg9, zkh9, zke9, zkf9, zka10, zkb10, zks10, zkt10, zkl10, zkn10, zkg10, zkh10, zke10, zkf10, zka11, zkb11, zks11, zkt11, zkl11, zkn11, zkg11, zkh11, zke11, zkf11, zka12, zkb12, zks12, zkt12, zkl12, zkn12, zkg12, zkh12, zke12, zkf12, zka13, zkb13, zks13, zkt13, zkl13, zkn13, zkg13, zkh13, zke13, zkf13, zka14, zkb14, zks14, zkt14, zkl14, zkn14, zkg14, zkh14, zke14, zkf14, zka15, zkb15, zks15, zkt15, zkl15, zkn15, zkg15, zkh15, zke15, zkf15, zka16, zkb16, zks16, zkt16, zkl16, zkn16, zkg16, zkh16, zke16, zkf16, zka19, zkb19, zks19, zkt19, zkl19, zkn19, zkg19, zkh19, zke19, zkf19, zka20, zkb20, zks20, zkt20, zkl20, zkn20, zkg20, zkh20, zke20, zkf20, zka24, zkb24, zks24, zkt24, zkl24, zkn24, zkg24, zkh24, zke24, zkf24, zka27, zkb27, zks27, zkt27, zkl27, zkn27, zkg27, zkh27, zke27, zkf27, zka31, zkb31, zks31, zkt31, zkl31, zkn31, zkg31, zkh31, zke31, zkf31, zka32, zkb32, zks32, zkt32, zkl32, zkn32, zkg32, zkh32, zke32, zkf32, zka40, zkb40, zks40, zkt40, zkl40, zkn40, zkg40, zkh40, zke40, zkf40, zka48, zkb48, zks48, zkt48, zkl48, zkn48, zkg48, zkh48, zke48, zkf48, zka50, zkb50, zks50, zkt50, zkl50, zkn50, zkg50, zkh50, zke50, zkf50, zka60, zkb60, zks60, zkt60, zkl60, zkn60, zkg60, zkh60, zke60, zkf60, zka64, zkb64, zks64, zkt64, zkl64, zkn64, zkg64, zkh64, zke64, zkf64, zka99, zkb99, zks99, zkt99, zkl99, zkn99, zkg99, zkh99, zke99, zkf99, zka100, zkb100, zks100, zkt100, zkl100, zkn100, zkg100, zkh100, zke100, zkf100, zka300, zkb300, zks300, zkt300, zkl300, zkn300, zkg300, zkh300, zke300, zkf300, zka302, zkb302, zks302, zkt302, zkl302, zkn302, zkg302, zkh302, zke302, zkf302, zka320, zkb320, zks320, zkt320, zkl320, zkn320, zkg320, zkh320, zke320, zkf320, zka512, zkb512, zks512, zkt512, zkl512, zkn512, zkg512, zkh512, zke512, zkf512, zka599, zkb599, zks599, zkt599, zkl599, zkn599, zkg599, zkh599, zke599, zkf599, zka600, zkb600, zks600, zkt600, zkl600, zkn600, zkg600, zkh600, zke600, zkf600, zka601, zkb601, zks601, zkt601, zkl601, zkn601, zkg601, zkh601, zke601, zkf601, zka620, zkb620, zks620, zkt620, zkl620, zkn620, zkg620, zkh620, zke620, zkf620, zka920, zkb920, zks920, zkt920, zkl920, zkn920, zkg920, zkh920, zke920, zkf920, zka999, zkb999, zks999, zkt999, zkl999, zkn999, zkg999, zkh999, zke999, zkf999, zka1000, zkb1000, zks1000, zkt1000, zkl1000, zkn1000, zkg1000, zkh1000, zke1000, zkf1000, zka1024, zkb1024, zks1024, zkt1024, zkl1024, zkn1024, zkg1024, zkh1024, zke1024, zkf1024, zka1220, zkb1220, zks1220, zkt1220, zkl1220, zkn1220, zkg1220, zkh1220, zke1220, zkf1220, zka1260, zkb1260, zks1260, zkt1260, zkl1260, zkn1260, zkg1260, zkh1260, zke1260, zkf1260, zka1300, zkb1300, zks1300, zkt1300, zkl1300, zkn1300, zkg1300, zkh1300, zke1300, zkf1300, zka1500, zkb1500, zks1500, zkt1500, zkl1500, zkn1500, zkg1500, zkh1500, zke1500, zkf1500, zka1540, zkb1540, zks1540, zkt1540, zkl1540, zkn1540, zkg1540, zkh1540, zke1540, zkf1540, zka1604, zkb1604, zks1604, zkt1604, zkl1604, zkn1604, zkg1604, zkh1604, zke1604, zkf1604, zka1668, zkb1668, zks1668, zkt1668, zkl1668, zkn1668, zkg1668, zkh1668, zke1668, zkf1668, zka2000, zkb2000, zks2000, zkt2000, zkl2000, zkn2000, zkg2000, zkh2000, zke2000, zkf2000, zka4999, zkb4999, zks4999, zkt4999, zkl4999, zkn4999, zkg4999, zkh4999, zke4999, zkf4999, zka5000, zkb5000, zks5000, zkt5000, zkl5000, zkn5000, zkg5000, zkh5000, zke5000, zkf5000, zkm1, zn_add, zn_add1, zn_sub, zn_sub1, zn_mul, zn_lt, zn_le, zn_eq, zci, zcl, zcr, zcv, zrb0, zrb1, if_pos, if_neg, if_true, if_false, hI1]
      rw [if_pos (by rw [lg_cmp_ge, zl_le, en, hl]; omega), zg_GP_treeHeight_43_e]
    · rw [zg_M_pages_29_e, if_pos (by rw [lg_cmp_ge, zl_le, en, hl]; omega), zg_M_pages_55_e]
  intro m
  induction m with
  | zero =>
    intro h v l2 hl hv _ _ hnv
    exact done h v l2 hl (by omega)
  | succ m ih =>
    intro h v l2 hl hv hv2 hm hnv
    rcases Nat.lt_or_ge v n with c | c
    · have hp : v * 2 ≤ v * o := Nat.mul_le_mul_left v ho.1
      have hp2 : v * o ≤ 300 * 99 := Nat.mul_le_mul (by omega) ho.2
      have em : (l2 * Int32.toInt64 (Int32.ofNat o)).toInt = (v * o : Nat) := by
        rw [zl_mul, hl, eo, Int.natCast_mul]
        · rw [hl, eo, ← Int.natCast_mul]; omega
        · rw [hl, eo, ← Int.natCast_mul]; omega
      have hpow : v * 2 ^ (m + 1) ≤ v * o * 2 ^ m := by
        rw [Nat.pow_succ, Nat.mul_comm (2 ^ m) 2, ← Nat.mul_assoc]
        exact Nat.mul_le_mul_right _ hp
      obtain ⟨r, r1, r2⟩ := ih (h + 1) (v * o) _ em (by omega) hp2 (by omega) (by omega)
      refine ⟨r, ?_, fun I' J' hI => ?_⟩
      · rw [zg_GP_treeHeight_4_e]
        simp only [zM_I, zM_J, zM_P, zM_wI, zM_wL, zrf, zo0, zo1, zo2, zo7, zo10, zo12, zo16, zo17, zo22, zo25, zo27, zo31, zo33, zo40, zo42, zo43, zo46, zo109, zo111, zo112, zo115, zo178, zo181, zp0_0, zp0_1, zp0_3, zp0_4, zp0_5, zp0_6, zp0_7, zp1_0, zp1_1, zp1_3, zp1_5, zp1_6, zp1_7, zp2_0, zp2_1, zp7_0, zp7_1, zp10_0, zp12_0, zp12_1, zp12_3, zp16_0, zp16_1, zp16_3, zp16_5, zp16_6, zp16_7, zp17_0, zp17_1, zp22_0, zp22_1, zp25_0, zp27_0, zp27_1, zp27_3, zp31_0, zp31_2, zp31_3, zp31_6, zp31_7, zp31_8, zp33_0, zp33_1, zp40_0, zp40_1, zp42_0, zp42_1, zp43_0, zp43_1, zp46_0, zp46_1, zp109_0, zp109_1, zp111_0, zp111_1, zp112_0, zp112_1, zp115_0, zp115_1, zp178_0, zp181_0, zp181_1, zp181_2, zp181_4, zp181_5, zp181_6, zp181_17, zp181_18, zp181_19, zp181_20, zp181_21, zp181_22, zp181_23, zp181_24, zp181_31, zp181_32, zx3, zx4, zx5, zx6, zx8, zx9, zx11, zx13, zx14, zx15, zx18, zx19, zx20, zx21, zx23, zx24, zx26, zx28, zx29, zx30, zx32, zx34, zx35, zx36, zx37, zx38, zx39, zx44, zx45, zx47, zx48, zx113, zx114, zx116, zx117, zx179, zx180, zx182, zx183, zx184, zx185, zx186, zx187, zx253, zx254, zx255, zx256, zx257, zx182, zw_0, zw_1, zw_2, zw_3, zw_4, zw_5, zw_6, zw_7, zw_8, zw_9, zw_10, zw_11, zw_12, zw_13, zw_14, zx6_0, zx6_1, zx6_2, zx6_3, zx6_4, zx6_5, zx6_6, zx6_7, zx21_0, zx21_1, zx21_2, zx21_3, zx21_4, zx21_5, zx21_6, zx21_7, zx36_0, zx36_1, zx36_2, zx36_3, zx36_4, zx36_5, zx36_6, zx36_7, zka0, zkb0, zks0, zkt0, zkl0, zkn0, zkg0, zkh0, zke0, zkf0, zka1, zkb1, zks1, zkt1, zkl1, zkn1, zkg1, zkh1, zke1, zkf1, zka2, zkb2, zks2, zkt2, zkl2, zkn2, zkg2, zkh2, zke2, zkf2, zka3, zkb3, zks3, zkt3, zkl3, zkn3, zkg3, zkh3, zke3, zkf3, zka4, zkb4, zks4, zkt4, zkl4, zkn4, zkg4, zkh4, zke4, zkf4, zka5, zkb5, zks5, zkt5, zkl5, zkn5, zkg5, zkh5, zke5, zkf5, zka6, zkb6, zks6, zkt6, zkl6, zkn6, zkg6, zkh6, zke6, zkf6, zka7, zkb7, zks7, zkt7, zkl7, zkn7, zkg7, zkh7, zke7, zkf7, zka8, zkb8, zks8, zkt8, zkl8, zkn8, zkg8, zkh8, zke8, zkf8, zka9, zkb9, zks9, zkt9, zkl9, zkn9, zkg9, zkh9, zke9, zkf9, zka10, zkb10, zks10, zkt10, zkl10, zkn10, zkg10, zkh10, zke10, zkf10, zka11, zkb11, zks11, zkt11, zkl11, zkn11, zkg11, zkh11, zke11, zkf11, zka12, zkb12, zks12, zkt12, zkl12, zkn12, zkg12, zkh12, zke12, zkf12, zka13, zkb13, zks13, zkt13, zkl13, zkn13, zkg13, zkh13, zke13, zkf13, zka14, zkb14, zks14, zkt14, zkl14, zkn14, zkg14, zkh14, zke14, zkf14, zka15, zkb15, zks15, zkt15, zkl15, zkn15, zkg15, zkh15, zke15, zkf15, zka16, zkb16, zks16, zkt16, zkl16, zkn16, zkg16, zkh16, zke16, zkf16, zka19, zkb19, zks19, zkt19, zkl19, zkn19, zkg19, zkh19, zke19, zkf19, zka20, zkb20, zks20, zkt20, zkl20, zkn20, zkg20, zkh20, zke20, zkf20, zka24, zkb24, zks24, zkt24, zkl24, zkn24, zkg24, zkh24, zke24, zkf24, zka27, zkb27, zks27, zkt27, zkl27, zkn27, zkg27, zkh27, zke27, zkf27, zka31, zkb31, zks31, zkt31, zkl31, zkn31, zkg31, zkh31, zke31, zkf31, zka32, zkb32, zks32, zkt32, zkl32, zkn32, zkg32, zkh32, zke32, zkf32, zka40, zkb40, zks40, zkt40, zkl40, zkn40, zkg40, zkh40, zke40, zkf40, zka48, zkb48, zks48, zkt48, zkl48, zkn48, zkg48, zkh48, zke48, zkf48, zka50, zkb50, zks50, zkt50, zkl50, zkn50, zkg50, zkh50, zke50, zkf50, zka60, zkb60, zks60, zkt60, zkl60, zkn60, zkg60, zkh60, zke60, zkf60, zka64, zkb64, zks64, zkt64, zkl64, zkn64, zkg64, zkh64, zke64, zkf64, zka99, zkb99, zks99, zkt99, zkl99, zkn99, zkg99, zkh99, zke99, zkf99, zka100, zkb100, zks100, zkt100, zkl100, zkn100, zkg100, zkh100, zke100, zkf100, zka300, zkb300, zks300, zkt300, zkl300, zkn300, zkg300, zkh300, zke300, zkf300, zka302, zkb302, zks302, zkt302, zkl302, zkn302, zkg302, zkh302, zke302, zkf302, zka320, zkb320, zks320, zkt320, zkl320, zkn320, zkg320, zkh320, zke320, zkf320, zka512, zkb512, zks512, zkt512, zkl512, zkn512, zkg512, zkh512, zke512, zkf512, zka599, zkb599, zks599, zkt599, zkl599, zkn599, zkg599, zkh599, zke599, zkf599, zka600, zkb600, zks600, zkt600, zkl600, zkn600, zkg600, zkh600, zke600, zkf600, zka601, zkb601, zks601, zkt601, zkl601, zkn601, zkg601, zkh601, zke601, zkf601, zka620, zkb620, zks620, zkt620, zkl620, zkn620, zkg620, zkh620, zke620, zkf620, zka920, zkb920, zks920, zkt920, zkl920, zkn920, zkg920, zkh920, zke920, zkf920, zka999, zkb999, zks999, zkt999, zkl999, zkn999, zkg999, zkh999, zke999, zkf999, zka1000, zkb1000, zks1000, zkt1000, zkl1000, zkn1000, zkg1000, zkh1000, zke1000, zkf1000, zka1024, zkb1024, zks1024, zkt1024, zkl1024, zkn1024, zkg1024, zkh1024, zke1024, zkf1024, zka1220, zkb1220, zks1220, zkt1220, zkl1220, zkn1220, zkg1220, zkh1220, zke1220, zkf1220, zka1260, zkb1260, zks1260, zkt1260, zkl1260, zkn1260, zkg1260, zkh1260, zke1260, zkf1260, zka1300, zkb1300, zks1300, zkt1300, zkl1300, zkn1300, zkg1300, zkh1300, zke1300, zkf1300, zka1500, zkb1500, zks1500, zkt1500, zkl1500, zkn1500, zkg1500, zkh1500, zke1500, zkf1500, zka1540, zkb1540, zks1540, zkt1540, zkl1540, zkn1540, zkg1540, zkh1540, zke1540, zkf1540, zka1604, zkb1604, zks1604, zkt1604, zkl1604, zkn1604, zkg1604, zkh1604, zke1604, zkf1604, zka1668, zkb1668, zks1668, zkt1668, zkl1668, zkn1668, zkg1668, zkh1668, zke1668, zkf1668, zka2000, zkb2000, zks2000, zkt2000, zkl2000, zkn2000, zkg2000, zkh2000, zke2000, zkf2000, zka4999, zkb4999, zks4999, zkt4999, zkl4999, zkn4999, zkg4999, zkh4999, zke4999, zkf4999, zka5000, zkb5000, zks5000, zkt5000, zkl5000, zkn5000, zkg5000, zkh5000, zke5000, zkf5000, zkm1, zn_add, zn_add1, zn_sub, zn_sub1, zn_mul, zn_lt, zn_le, zn_eq, zci, zcl, zcr, zcv, zrb0, zrb1, if_pos, if_neg, if_true, if_false, hI1, hI2]
        rw [if_neg (by rw [lg_cmp_ge, zl_le, en, hl]; omega), if_neg (fun q => absurd ((zkh300 (by omega)).mp q) (by omega))]
        exact r1
      · rw [zg_M_pages_29_e, if_neg (by rw [lg_cmp_ge, zl_le, en, hl]; omega), zo181, zM_P, zp181_0, zrf, zw_4, zM_I, hI, zn_add1]
        exact r2 I' J' hI
    · exact done h v l2 hl c
theorem c_pages0 {n e u H p : Nat} {f : Nat → Int} (hf : zfb f) (hu : zupto f n) (hn : n ≤ 300) (he20 : e ≤ 20) (hp : 1 ≤ p ∧ p ≤ 99) (h3 : I 6 3 = Int32.ofNat p) (hC : zCov I J 40 f n e u H) : zg_GP_pages_0 X 0 0 (zM b I J) = some (some (.int (zPg f n e H p n)), zM b I J) := by
  have hs := zLs_49 b
  have lk0 := fun (k : Nat → Option (Option Value × zv_M)) => (show zv_iq (zM b I J) 41 0 (fun j => zv_rf (zP b 41 j) k) = k 49 from zcvlev (I := I) (J := J) (l := 0) (k := k) (zCvS_40 b) (by decide))
  have main := c_pg19 X (b := b) (I := I) (J := J) (cv := 40) (lv := 49) (by_ := p) rfl hC.1 hs (by omega) hn he20 hp hu hf hC.2.2.1 (zNp f n e) 0 (by omega)
  have main' : zg_Cover_pagesOfAll_19 X 40 49 (Int32.ofNat p) 0 0 (zM b I J) = _ := main
  rw [zg_GP_pages_0_e, if_pos rfl]
  simp only [zM_I, zM_J, zM_P, zM_wI, zM_wL, zrf, zo0, zo1, zo2, zo7, zo10, zo12, zo16, zo17, zo22, zo25, zo27, zo31, zo33, zo40, zo42, zo43, zo46, zo109, zo111, zo112, zo115, zo178, zo181, zp0_0, zp0_1, zp0_3, zp0_4, zp0_5, zp0_6, zp0_7, zp1_0, zp1_1, zp1_3, zp1_5, zp1_6, zp1_7, zp2_0, zp2_1, zp7_0, zp7_1, zp10_0, zp12_0, zp12_1, zp12_3, zp16_0, zp16_1, zp16_3, zp16_5, zp16_6, zp16_7, zp17_0, zp17_1, zp22_0, zp22_1, zp25_0, zp27_0, zp27_1, zp27_3, zp31_0, zp31_2, zp31_3, zp31_6, zp31_7, zp31_8, zp33_0, zp33_1, zp40_0, zp40_1, zp42_0, zp42_1, zp43_0, zp43_1, zp46_0, zp46_1, zp109_0, zp109_1, zp111_0, zp111_1, zp112_0, zp112_1, zp115_0, zp115_1, zp178_0, zp181_0, zp181_1, zp181_2, zp181_4, zp181_5, zp181_6, zp181_17, zp181_18, zp181_19, zp181_20, zp181_21, zp181_22, zp181_23, zp181_24, zp181_31, zp181_32, zx3, zx4, zx5, zx6, zx8, zx9, zx11, zx13, zx14, zx15, zx18, zx19, zx20, zx21, zx23, zx24, zx26, zx28, zx29, zx30, zx32, zx34, zx35, zx36, zx37, zx38, zx39, zx44, zx45, zx47, zx48, zx113, zx114, zx116, zx117, zx179, zx180, zx182, zx183, zx184, zx185, zx186, zx187, zx253, zx254, zx255, zx256, zx257, zx182, zw_0, zw_1, zw_2, zw_3, zw_4, zw_5, zw_6, zw_7, zw_8, zw_9, zw_10, zw_11, zw_12, zw_13, zw_14, zx6_0, zx6_1, zx6_2, zx6_3, zx6_4, zx6_5, zx6_6, zx6_7, zx21_0, zx21_1, zx21_2, zx21_3, zx21_4, zx21_5, zx21_6, zx21_7, zx36_0, zx36_1, zx36_2, zx36_3, zx36_4, zx36_5, zx36_6, zx36_7, zka0, zkb0, zks0, zkt0, zkl0, zkn0, zkg0, zkh0, zke0, zkf0, zka1, zkb1, zks1, zkt1, zkl1, zkn1, zkg1, zkh1, zke1, zkf1, zka2, zkb2, zks2, zkt2, zkl2, zkn2, zkg2, zkh2, zke2, zkf2, zka3, zkb3, zks3, zkt3, zkl3, zkn3, zkg3, zkh3, zke3, zkf3, zka4, zkb4, zks4, zkt4, zkl4, zkn4, zkg4, zkh4, zke4, zkf4, zka5, zkb5, zks5, zkt5, zkl5, zkn5, zkg5, zkh5, zke5, zkf5, zka6, zkb6, zks6, zkt6, zkl6, zkn6, zkg6, zkh6, zke6, zkf6, zka7, zkb7, zks7, zkt7, zkl7, zkn7, zkg7, zkh7, zke7, zkf7, zka8, zkb8, zks8, zkt8, zkl8, zkn8, zkg8, zkh8, zke8, zkf8, zka9, zkb9, zks9, zkt9, zkl9, zkn9, zkg9, zkh9, zke9, zkf9, zka10, zkb10, zks10, zkt10, zkl10, zkn10, zkg10, zkh10, zke10, zkf10, zka11, zkb11, zks11, zkt11, zkl11, zkn11, zkg11, zkh11, zke11, zkf11, zka12, zkb12, zks12, zkt12, zkl12, zkn12, zkg12, zkh12, zke12, zkf12, zka13, zkb13, zks13, zkt13, zkl13, zkn13, zkg13, zkh13, zke13, zkf13, zka14, zkb14, zks14, zkt14, zkl14, zkn14, zkg14, zkh14, zke14, zkf14, zka15, zkb15, zks15, zkt15, zkl15, zkn15, zkg15, zkh15, zke15, zkf15, zka16, zkb16, zks16, zkt16, zkl16, zkn16, zkg16, zkh16, zke16, zkf16, zka19, zkb19, zks19, zkt19, zkl19, zkn19, zkg19, zkh19, zke19, zkf19, zka20, zkb20, zks20, zkt20, zkl20, zkn20, zkg20, zkh20, zke20, zkf20, zka24, zkb24, zks24, zkt24, zkl24, zkn24, zkg24, zkh24, zke24, zkf24, zka27, zkb27, zks27, zkt27, zkl27, zkn27, zkg27, zkh27, zke27, zkf27, zka31, zkb31, zks31, zkt31, zkl31, zkn31, zkg31, zkh31, zke31, zkf31, zka32, zkb32, zks32, zkt32, zkl32, zkn32, zkg32, zkh32, zke32, zkf32, zka40, zkb40, zks40, zkt40, zkl40, zkn40, zkg40, zkh40, zke40, zkf40, zka48, zkb48, zks48, zkt48, zkl48, zkn48, zkg48, zkh48, zke48, zkf48, zka50, zkb50, zks50, zkt50, zkl50, zkn50, zkg50, zkh50, zke50, zkf50, zka60, zkb60, zks60, zkt60, zkl60, zkn60, zkg60, zkh60, zke60, zkf60, zka64, zkb64, zks64, zkt64, zkl64, zkn64, zkg64, zkh64, zke64, zkf64, zka99, zkb99, zks99, zkt99, zkl99, zkn99, zkg99, zkh99, zke99, zkf99, zka100, zkb100, zks100, zkt100, zkl100, zkn100, zkg100, zkh100, zke100, zkf100, zka300, zkb300, zks300, zkt300, zkl300, zkn300, zkg300, zkh300, zke300, zkf300, zka302, zkb302, zks302, zkt302, zkl302, zkn302, zkg302, zkh302, zke302, zkf302, zka320, zkb320, zks320, zkt320, zkl320, zkn320, zkg320, zkh320, zke320, zkf320, zka512, zkb512, zks512, zkt512, zkl512, zkn512, zkg512, zkh512, zke512, zkf512, zka599, zkb599, zks599, zkt599, zkl599, zkn599, zkg599, zkh599, zke599, zkf599, zka600, zkb600, zks600, zkt600, zkl600, zkn600, zkg600, zkh600, zke600, zkf600, zka601, zkb601, zks601, zkt601, zkl601, zkn601, zkg601, zkh601, zke601, zkf601, zka620, zkb620, zks620, zkt620, zkl620, zkn620, zkg620, zkh620, zke620, zkf620, zka920, zkb920, zks920, zkt920, zkl920, zkn920, zkg920, zkh920, zke920, zkf920, zka999, zkb999, zks999, zkt999, zkl999, zkn999, zkg999, zkh999, zke999, zkf999, zka1000, zkb1000, zks1000, zkt1000, zkl1000, zkn1000, zkg1000, zkh1000, zke1000, zkf1000, zka1024, zkb1024, zks1024, zkt1024, zkl1024, zkn1024, zkg1024, zkh1024, zke1024, zkf1024, zka1220, zkb1220, zks1220, zkt1220, zkl1220, zkn1220, zkg1220, zkh1220, zke1220, zkf1220, zka1260, zkb1260, zks1260, zkt1260, zkl1260, zkn1260, zkg1260, zkh1260, zke1260, zkf1260, zka1300, zkb1300, zks1300, zkt1300, zkl1300, zkn1300, zkg1300, zkh1300, zke1300, zkf1300, zka1500, zkb1500, zks1500, zkt1500, zkl1500, zkn1500, zkg1500, zkh1500, zke1500, zkf1500, zka1540, zkb1540, zks1540, zkt1540, zkl1540, zkn1540, zkg1540, zkh1540, zke1540, zkf1540, zka1604, zkb1604, zks1604, zkt1604, zkl1604, zkn1604, zkg1604, zkh1604, zke1604, zkf1604, zka1668, zkb1668, zks1668, zkt1668, zkl1668, zkn1668, zkg1668, zkh1668, zke1668, zkf1668, zka2000, zkb2000, zks2000, zkt2000, zkl2000, zkn2000, zkg2000, zkh2000, zke2000, zkf2000, zka4999, zkb4999, zks4999, zkt4999, zkl4999, zkn4999, zkg4999, zkh4999, zke4999, zkf4999, zka5000, zkb5000, zks5000, zkt5000, zkl5000, zkn5000, zkg5000, zkh5000, zke5000, zkf5000, zkm1, zn_add, zn_add1, zn_sub, zn_sub1, zn_mul, zn_lt, zn_le, zn_eq, zci, zcl, zcr, zcv, zrb0, zrb1, if_pos, if_neg, if_true, if_false, h3, zg_Cover_pagesOfAll_0_e, lk0]
  rw [show zg_Math_max0_0 X 1 (Int32.ofNat p) (zM b I J) = _ from s_maxN X 1 p (zM b I J) (by decide) (by omega), zci, show max 1 p = p by omega, main', zci]
theorem m_pg76 {n e u H p : Nat} {f : Nat → Int} (hf : zfb f) (hu : zupto f n) (hn : n ≤ 300) (he20 : e ≤ 20) (hp : 1 ≤ p ∧ p ≤ 99) (h0 : I 182 0 = Int32.ofNat e) (h3 : I 182 3 = Int32.ofNat p) (hC : zMCov I J f n e u H) (hL : 0 < n → zML I J 0 f n e) : ∀ m i, i + m = n → zg_M_pages_76 X 181 (Int32.ofNat n) (zPg f n e H p i) (Int32.ofNat i) (zM b I J) = some (some (.int (zPg f n e H p n)), zM b I J) := by
  have hp0 : ¬ Int32.ofNat p = 0 := fun q => absurd ((zke0 (by omega)).mp q) (by omega)
  have z0 : ∀ {α : Type} {k : Nat → Option α}, zv_iq (zM b I J) 188 0 (fun j => zv_rf (zP b 188 j) k) = k 189 := zmt188 (l := 0) (by decide)
  intro m
  induction m with
  | zero =>
    intro i hi
    have : i = n := by omega
    subst this
    rw [zg_M_pages_76_e, if_pos ((zn_le (by omega) (by omega)).mpr (Nat.le_refl _)), zg_M_pages_199_e]
  | succ m ih =>
    intro i hi
    have hin : i < n := by omega
    have hL0 := hL (by omega)
    obtain ⟨g1, g2, g3⟩ := zpcI_spec (e := e) (f := f) hin
    have hrow : (I 189 i).toInt = f i := hL0.2.2.2.1 i hin
    have hg : zg_M_guessOf_0 X 181 0 (Int32.ofNat (zpcI f n e i)) (I 189 i) (zM b I J) = some (some (.int (Int32.ofNat (zgi f n e i))), zM b I J) := by
      have := m_guessOf X (b := b) (x := I 189 i) (l := 0) (by decide) (by omega) he20 hu hf hL0 g1
      rw [hrow] at this
      exact this
    have hpc : zg_M_pieceOf_0 X 181 0 (Int32.ofNat i) (zM b I J) = some (some (.int (Int32.ofNat (zpcI f n e i))), zM b I J) := m_pieceOf X (l := 0) (by decide) (by omega) hu hL0 hin
    have hgl : zgi f n e i ≤ n := zgk_le
    have e0 : (0 : Int32).toInt = 0 := rfl
    have i1 : (Int32.ofNat (zgi f n e i) - Int32.ofNat e).toInt = (zgi f n e i : Int) - e := by
      rw [zi_sub (by rw [zn_int (by omega), zn_int (by omega)]; omega) (by rw [zn_int (by omega), zn_int (by omega)]; omega), zn_int (by omega), zn_int (by omega)]
    have x189 : ∀ {α : Type} {k : Nat → Option α}, zv_ix (zM b I J) 0 189 (Int32.ofNat i) k = k i := zmx189 (l := 0) (by decide) (by omega)
    have e130 : zg_M_pages_76 X 181 (Int32.ofNat n) (zPg f n e H p i) (Int32.ofNat i) (zM b I J) = zg_M_pages_130 X 181 (Int32.ofNat n) (zPg f n e H p i) (Int32.ofNat i) (Int32.ofNat (zgi f n e i)) (Int32.ofNat (zgi f n e i - e)) (zM b I J) := by
      rw [zg_M_pages_76_e, if_neg (fun q => absurd ((zn_le (by omega) (by omega)).mp q) (by omega)), zo181, hpc, zci, zo181, zM_P, zp181_17, zrf, z0, x189, zM_I, zo181, hg, zci, zo181, zM_P, zp181_0, zrf, zw_0, zM_I, h0, zg_M_pages_121_e, zo181, zM_P, zp181_0, zrf, zw_0, zM_I, h0]
      by_cases c : e ≤ zgi f n e i
      · rw [if_pos (by rw [zi_le, e0, i1]; omega), zn_sub c]
      · rw [if_neg (by rw [zi_le, e0, i1]; omega), show zgi f n e i - e = 0 by omega]; rfl
    have e162 : zg_M_pages_130 X 181 (Int32.ofNat n) (zPg f n e H p i) (Int32.ofNat i) (Int32.ofNat (zgi f n e i)) (Int32.ofNat (zgi f n e i - e)) (zM b I J) = zg_M_pages_162 X 181 (Int32.ofNat n) (zPg f n e H p i) (Int32.ofNat i) (Int32.ofNat (zgi f n e i - e)) (Int32.ofNat (min (n - 1) (zgi f n e i + e))) (zM b I J) := by
      rw [zg_M_pages_130_e, zo181, zM_P, zp181_0, zrf, zw_0, zM_I, h0, zn_add, zn_sub1 (by omega), zg_M_pages_153_e, zo181, zM_P, zp181_0, zrf, zw_0, zM_I, h0, zn_add]
      by_cases c : zgi f n e i + e ≤ n - 1
      · rw [if_pos ((zn_le (by omega) (by omega)).mpr c), show min (n - 1) (zgi f n e i + e) = zgi f n e i + e by omega]
      · rw [if_neg (fun q => c ((zn_le (by omega) (by omega)).mp q)), show min (n - 1) (zgi f n e i + e) = n - 1 by omega]
    rw [e130, e162, zg_M_pages_162_e, zo181, zM_P, zp181_0, zrf, zw_3, zM_I, h3, if_neg hp0, zo181, zrf, zw_3, h3, if_neg hp0, zo181, hC.1, zn_add1]
    exact ih (i + 1) (by omega)
end ZPP
