/-! the gaps of the object -/
section ZGC
variable (X : zv_X) {b0 : Bool} {J : zJ} {I : zI} {x : Int32} {G : Nat → Int32}
theorem zN_e : (-1000000001 : Int32) = zN := rfl
theorem c_fill : ∀ (m k : Nat) (I : zI), k + m = 64 → ∃ I', zg_Arrays_fill_5 X 11 zN (Int32.ofNat k) (Int32.ofNat 64) (zM b0 I J) = some (none, zM b0 I' J) ∧ (∀ c, c ≠ 11 → I' c = I c) ∧ ∀ i, I' 11 i = if k ≤ i ∧ i < 64 then zN else I 11 i := by
  intro m
  induction m with
  | zero =>
    intro k I hk
    refine ⟨I, ?_, fun c _ => rfl, fun i => by rw [if_neg (by omega)]⟩
    rw [zg_Arrays_fill_5_e, if_pos ((zn_le (by omega) (by omega)).mpr (by omega)), zg_Arrays_fill_20_e]
  | succ m ih =>
    intro k I hk
    obtain ⟨I', e1, e2, e3⟩ := ih (k + 1) (zst I 11 k zN) (by omega)
    refine ⟨I', ?_, fun c hc => by rw [e2 c hc, zst_ne hc], fun i => ?_⟩
    · rw [zg_Arrays_fill_5_e, if_neg (fun q => absurd ((zn_le (by omega) (by omega)).mp q) (by omega))]
      simp (disch := omega) only [zM_I, zM_J, zM_P, zM_wI, zM_wL, zrf, zo0, zo1, zo2, zo7, zo10, zo12, zo16, zo17, zo22, zo25, zo27, zo31, zo33, zo40, zo42, zo43, zo46, zo109, zo111, zo112, zo115, zo178, zo181, zp0_0, zp0_1, zp0_3, zp0_4, zp0_5, zp0_6, zp0_7, zp1_0, zp1_1, zp1_3, zp1_5, zp1_6, zp1_7, zp2_0, zp2_1, zp7_0, zp7_1, zp10_0, zp12_0, zp12_1, zp12_3, zp16_0, zp16_1, zp16_3, zp16_5, zp16_6, zp16_7, zp17_0, zp17_1, zp22_0, zp22_1, zp25_0, zp27_0, zp27_1, zp27_3, zp31_0, zp31_2, zp31_3, zp31_6, zp31_7, zp31_8, zp33_0, zp33_1, zp40_0, zp40_1, zp42_0, zp42_1, zp43_0, zp43_1, zp46_0, zp46_1, zp109_0, zp109_1, zp111_0, zp111_1, zp112_0, zp112_1, zp115_0, zp115_1, zp178_0, zp181_0, zp181_1, zp181_2, zp181_4, zp181_5, zp181_6, zp181_17, zp181_18, zp181_19, zp181_20, zp181_21, zp181_22, zp181_23, zp181_24, zp181_31, zp181_32, zx3, zx4, zx5, zx6, zx8, zx9, zx11, zx13, zx14, zx15, zx18, zx19, zx20, zx21, zx23, zx24, zx26, zx28, zx29, zx30, zx32, zx34, zx35, zx36, zx37, zx38, zx39, zx44, zx45, zx47, zx48, zx113, zx114, zx116, zx117, zx179, zx180, zx182, zx183, zx184, zx185, zx186, zx187, zx253, zx254, zx255, zx256, zx257, zx182, zw_0, zw_1, zw_2, zw_3, zw_4, zw_5, zw_6, zw_7, zw_8, zw_9, zw_10, zw_11, zw_12, zw_13, zw_14, zx6_0, zx6_1, zx6_2, zx6_3, zx6_4, zx6_5, zx6_6, zx6_7, zx21_0, zx21_1, zx21_2, zx21_3, zx21_4, zx21_5, zx21_6, zx21_7, zx36_0, zx36_1, zx36_2, zx36_3, zx36_4, zx36_5, zx36_6, zx36_7, zka0, zkb0, zks0, zkt0, zkl0, zkn0, zkg0, zkh0, zke0, zkf0, zka1, zkb1, zks1, zkt1, zkl1, zkn1, zkg1, zkh1, zke1, zkf1, zka2, zkb2, zks2, zkt2, zkl2, zkn2, zkg2, zkh2, zke2, zkf2, zka3, zkb3, zks3, zkt3, zkl3, zkn3, zkg3, zkh3, zke3, zkf3, zka4, zkb4, zks4, zkt4, zkl4, zkn4, zkg4, zkh4, zke4, zkf4, zka5, zkb5, zks5, zkt5, zkl5, zkn5, zkg5, zkh5, zke5, zkf5, zka6, zkb6, zks6, zkt6, zkl6, zkn6, zkg6, zkh6, zke6, zkf6, zka7, zkb7, zks7, zkt7, zkl7, zkn7, zkg7, zkh7, zke7, zkf7, zka8, zkb8, zks8, zkt8, zkl8, zkn8, zkg8, zkh8, zke8, zkf8, zka9, zkb9, zks9, zkt9, zkl9, zkn9, zkg9, zkh9, zke9, zkf9, zka10, zkb10, zks10, zkt10, zkl10, zkn10, zkg10, zkh10, zke10, zkf10, zka11, zkb11, zks11, zkt11, zkl11, zkn11, zkg11, zkh11, zke11, zkf11, zka12, zkb12, zks12, zkt12, zkl12, zkn12, zkg12, zkh12, zke12, zkf12, zka13, zkb13, zks13, zkt13, zkl13, zkn13, zkg13, zkh13, zke13, zkf13, zka14, zkb14, zks14, zkt14, zkl14, zkn14, zkg14, zkh14, zke14, zkf14, zka15, zkb15, zks15, zkt15, zkl15, zkn15, zkg15, zkh15, zke15, zkf15, zka16, zkb16, zks16, zkt16, zkl16, zkn16, zkg16, zkh16, zke16, zkf16, zka19, zkb19, zks19, zkt19, zkl19, zkn19, zkg19, zkh19, zke19, zkf19, zka20, zkb20, zks20, zkt20, zkl20, zkn20, zkg20, zkh20, zke20, zkf20, zka24, zkb24, zks24, zkt24, zkl24, zkn24, zkg24, zkh24, zke24, zkf24, zka27, zkb27, zks27, zkt27, zkl27, zkn27, zkg27, zkh27, zke27, zkf27, zka31, zkb31, zks31, zkt31, zkl31, zkn31, zkg31, zkh31, zke31, zkf31, zka32, zkb32, zks32, zkt32, zkl32, zkn32, zkg32, zkh32, zke32, zkf32, zka40, zkb40, zks40, zkt40, zkl40, zkn40, zkg40, zkh40, zke40, zkf40, zka48, zkb48, zks48, zkt48, zkl48, zkn48, zkg48, zkh48, zke48, zkf48, zka50, zkb50, zks50, zkt50, zkl50, zkn50, zkg50, zkh50, zke50, zkf50, zka60, zkb60, zks60, zkt60, zkl60, zkn60, zkg60, zkh60, zke60, zkf60, zka64, zkb64, zks64, zkt64, zkl64, zkn64, zkg64, zkh64, zke64, zkf64, zka99, zkb99, zks99, zkt99, zkl99, zkn99, zkg99, zkh99, zke99, zkf99, zka100, zkb100, zks100, zkt100, zkl100, zkn100, zkg100, zkh100, zke100, zkf100, zka300, zkb300, zks300, zkt300, zkl300, zkn300, zkg300, zkh300, zke300, zkf300, zka302, zkb302, zks302, zkt302, zkl302, zkn302, zkg302, zkh302, zke302, zkf302, zka320, zkb320, zks320, zkt320, zkl320, zkn320, zkg320, zkh320, zke320, zkf320, zka512, zkb512, zks512, zkt512, zkl512, zkn512, zkg512, zkh512, zke512, zkf512, zka599, zkb599, zks599, zkt599, zkl599, zkn599, zkg599, zkh599, zke599, zkf599, zka600, zkb600, zks600, zkt600, zkl600, zkn600, zkg600, zkh600, zke600, zkf600, zka601, zkb601, zks601, zkt601, zkl601, zkn601, zkg601, zkh601, zke601, zkf601, zka620, zkb620, zks620, zkt620, zkl620, zkn620, zkg620, zkh620, zke620, zkf620, zka920, zkb920, zks920, zkt920, zkl920, zkn920, zkg920, zkh920, zke920, zkf920, zka999, zkb999, zks999, zkt999, zkl999, zkn999, zkg999, zkh999, zke999, zkf999, zka1000, zkb1000, zks1000, zkt1000, zkl1000, zkn1000, zkg1000, zkh1000, zke1000, zkf1000, zka1024, zkb1024, zks1024, zkt1024, zkl1024, zkn1024, zkg1024, zkh1024, zke1024, zkf1024, zka1220, zkb1220, zks1220, zkt1220, zkl1220, zkn1220, zkg1220, zkh1220, zke1220, zkf1220, zka1260, zkb1260, zks1260, zkt1260, zkl1260, zkn1260, zkg1260, zkh1260, zke1260, zkf1260, zka1300, zkb1300, zks1300, zkt1300, zkl1300, zkn1300, zkg1300, zkh1300, zke1300, zkf1300, zka1500, zkb1500, zks1500, zkt1500, zkl1500, zkn1500, zkg1500, zkh1500, zke1500, zkf1500, zka1540, zkb1540, zks1540, zkt1540, zkl1540, zkn1540, zkg1540, zkh1540, zke1540, zkf1540, zka1604, zkb1604, zks1604, zkt1604, zkl1604, zkn1604, zkg1604, zkh1604, zke1604, zkf1604, zka1668, zkb1668, zks1668, zkt1668, zkl1668, zkn1668, zkg1668, zkh1668, zke1668, zkf1668, zka2000, zkb2000, zks2000, zkt2000, zkl2000, zkn2000, zkg2000, zkh2000, zke2000, zkf2000, zka4999, zkb4999, zks4999, zkt4999, zkl4999, zkn4999, zkg4999, zkh4999, zke4999, zkf4999, zka5000, zkb5000, zks5000, zkt5000, zkl5000, zkn5000, zkg5000, zkh5000, zke5000, zkf5000, zkm1, zn_add, zn_add1, zn_sub, zn_sub1, zn_mul, zn_lt, zn_le, zn_eq, zci, zcl, zcr, zcv, zrb0, zrb1, if_pos, if_neg, if_true, if_false]
      exact e1
    · rw [e3]
      simp only [zst_at]
      grind
theorem c_even {K : zKL} {m : Nat} (hm : m ≤ 48) (hL : m ≤ K.length) (hl : K.length ≤ 300) : ∀ (d k : Nat) (I : zI), k + d = m → zrow (I 3) (K.map (·.1)) → zCG I 0 (zlayG (K.map (·.1)) m k) → ∃ I', zg_Gaps_fillEvenly_21 X 10 2 (Int32.ofNat m) (Int32.ofNat k) (zM b0 I J) = some (some (.int (Int32.ofNat m)), zM b0 I' J) ∧ zCG I' 0 (zlayG (K.map (·.1)) m m) ∧ ∀ a, a ≠ 11 → I' a = I a := by
  intro d
  induction d with
  | zero =>
    intro k I hk h1 h2
    have : k = m := by omega
    subst this
    refine ⟨I, ?_, h2, fun a _ => rfl⟩
    rw [zg_Gaps_fillEvenly_21_e, if_pos ((zn_le (by omega) (by omega)).mpr (by omega)), zg_Gaps_fillEvenly_49_e]
  | succ d ih =>
    intro k I hk h1 h2
    have hkl : k < (K.map (·.1)).length := by simp; omega
    have hv : I 3 k = (K.map (·.1))[k] := zrow_sub h1 hkl
    have hc : 64 * k / m < 64 := by
      rw [Nat.div_lt_iff_lt_mul (by omega)]; omega
    have hdiv : (64 : Int32) * Int32.ofNat k / Int32.ofNat m = Int32.ofNat (64 * k / m) := by
      rw [zkm64, zn_div (by omega) (by omega) (by omega)]
    obtain ⟨I2, f1, f2, f3⟩ := ih (k + 1) (zst I 11 (64 * k / m) (I 3 k)) (by omega) (by rw [zst_ne (by decide)]; exact h1) (fun c hc => by
      show zst I 11 (64 * k / m) (I 3 k) 11 c = zgu (zlayG (K.map (·.1)) m k) (64 * k / m) ((K.map (·.1)).getD k 0) c
      rw [show (K.map (·.1)).getD k 0 = (K.map (·.1))[k] by simp only [List.getD_eq_getElem?_getD, List.getElem?_eq_getElem hkl, Option.getD_some]]
      unfold zgu
      by_cases e : c = 64 * k / m
      · rw [if_pos e, e, zst_self, hv]
      · rw [if_neg e, zst_off e]
        exact h2 c hc)
    refine ⟨I2, ?_, f2, fun a ha => by rw [f3 a ha, zst_ne ha]⟩
    rw [zg_Gaps_fillEvenly_21_e, if_neg (fun q => absurd ((zn_le (by omega) (by omega)).mp q) (by omega))]
    simp (disch := omega) only [zM_I, zM_J, zM_P, zM_wI, zM_wL, zrf, zo0, zo1, zo2, zo7, zo10, zo12, zo16, zo17, zo22, zo25, zo27, zo31, zo33, zo40, zo42, zo43, zo46, zo109, zo111, zo112, zo115, zo178, zo181, zp0_0, zp0_1, zp0_3, zp0_4, zp0_5, zp0_6, zp0_7, zp1_0, zp1_1, zp1_3, zp1_5, zp1_6, zp1_7, zp2_0, zp2_1, zp7_0, zp7_1, zp10_0, zp12_0, zp12_1, zp12_3, zp16_0, zp16_1, zp16_3, zp16_5, zp16_6, zp16_7, zp17_0, zp17_1, zp22_0, zp22_1, zp25_0, zp27_0, zp27_1, zp27_3, zp31_0, zp31_2, zp31_3, zp31_6, zp31_7, zp31_8, zp33_0, zp33_1, zp40_0, zp40_1, zp42_0, zp42_1, zp43_0, zp43_1, zp46_0, zp46_1, zp109_0, zp109_1, zp111_0, zp111_1, zp112_0, zp112_1, zp115_0, zp115_1, zp178_0, zp181_0, zp181_1, zp181_2, zp181_4, zp181_5, zp181_6, zp181_17, zp181_18, zp181_19, zp181_20, zp181_21, zp181_22, zp181_23, zp181_24, zp181_31, zp181_32, zx3, zx4, zx5, zx6, zx8, zx9, zx11, zx13, zx14, zx15, zx18, zx19, zx20, zx21, zx23, zx24, zx26, zx28, zx29, zx30, zx32, zx34, zx35, zx36, zx37, zx38, zx39, zx44, zx45, zx47, zx48, zx113, zx114, zx116, zx117, zx179, zx180, zx182, zx183, zx184, zx185, zx186, zx187, zx253, zx254, zx255, zx256, zx257, zx182, zw_0, zw_1, zw_2, zw_3, zw_4, zw_5, zw_6, zw_7, zw_8, zw_9, zw_10, zw_11, zw_12, zw_13, zw_14, zx6_0, zx6_1, zx6_2, zx6_3, zx6_4, zx6_5, zx6_6, zx6_7, zx21_0, zx21_1, zx21_2, zx21_3, zx21_4, zx21_5, zx21_6, zx21_7, zx36_0, zx36_1, zx36_2, zx36_3, zx36_4, zx36_5, zx36_6, zx36_7, zka0, zkb0, zks0, zkt0, zkl0, zkn0, zkg0, zkh0, zke0, zkf0, zka1, zkb1, zks1, zkt1, zkl1, zkn1, zkg1, zkh1, zke1, zkf1, zka2, zkb2, zks2, zkt2, zkl2, zkn2, zkg2, zkh2, zke2, zkf2, zka3, zkb3, zks3, zkt3, zkl3, zkn3, zkg3, zkh3, zke3, zkf3, zka4, zkb4, zks4, zkt4, zkl4, zkn4, zkg4, zkh4, zke4, zkf4, zka5, zkb5, zks5, zkt5, zkl5, zkn5, zkg5, zkh5, zke5, zkf5, zka6, zkb6, zks6, zkt6, zkl6, zkn6, zkg6, zkh6, zke6, zkf6, zka7, zkb7, zks7, zkt7, zkl7, zkn7, zkg7, zkh7, zke7, zkf7, zka8, zkb8, zks8, zkt8, zkl8, zkn8, zkg8, zkh8, zke8, zkf8, zka9, zkb9, zks9, zkt9, zkl9, zkn9, zkg9, zkh9, zke9, zkf9, zka10, zkb10, zks10, zkt10, zkl10, zkn10, zkg10, zkh10, zke10, zkf10, zka11, zkb11, zks11, zkt11, zkl11, zkn11, zkg11, zkh11, zke11, zkf11, zka12, zkb12, zks12, zkt12, zkl12, zkn12, zkg12, zkh12, zke12, zkf12, zka13, zkb13, zks13, zkt13, zkl13, zkn13, zkg13, zkh13, zke13, zkf13, zka14, zkb14, zks14, zkt14, zkl14, zkn14, zkg14, zkh14, zke14, zkf14, zka15, zkb15, zks15, zkt15, zkl15, zkn15, zkg15, zkh15, zke15, zkf15, zka16, zkb16, zks16, zkt16, zkl16, zkn16, zkg16, zkh16, zke16, zkf16, zka19, zkb19, zks19, zkt19, zkl19, zkn19, zkg19, zkh19, zke19, zkf19, zka20, zkb20, zks20, zkt20, zkl20, zkn20, zkg20, zkh20, zke20, zkf20, zka24, zkb24, zks24, zkt24, zkl24, zkn24, zkg24, zkh24, zke24, zkf24, zka27, zkb27, zks27, zkt27, zkl27, zkn27, zkg27, zkh27, zke27, zkf27, zka31, zkb31, zks31, zkt31, zkl31, zkn31, zkg31, zkh31, zke31, zkf31, zka32, zkb32, zks32, zkt32, zkl32, zkn32, zkg32, zkh32, zke32, zkf32, zka40, zkb40, zks40, zkt40, zkl40, zkn40, zkg40, zkh40, zke40, zkf40, zka48, zkb48, zks48, zkt48, zkl48, zkn48, zkg48, zkh48, zke48, zkf48, zka50, zkb50, zks50, zkt50, zkl50, zkn50, zkg50, zkh50, zke50, zkf50, zka60, zkb60, zks60, zkt60, zkl60, zkn60, zkg60, zkh60, zke60, zkf60, zka64, zkb64, zks64, zkt64, zkl64, zkn64, zkg64, zkh64, zke64, zkf64, zka99, zkb99, zks99, zkt99, zkl99, zkn99, zkg99, zkh99, zke99, zkf99, zka100, zkb100, zks100, zkt100, zkl100, zkn100, zkg100, zkh100, zke100, zkf100, zka300, zkb300, zks300, zkt300, zkl300, zkn300, zkg300, zkh300, zke300, zkf300, zka302, zkb302, zks302, zkt302, zkl302, zkn302, zkg302, zkh302, zke302, zkf302, zka320, zkb320, zks320, zkt320, zkl320, zkn320, zkg320, zkh320, zke320, zkf320, zka512, zkb512, zks512, zkt512, zkl512, zkn512, zkg512, zkh512, zke512, zkf512, zka599, zkb599, zks599, zkt599, zkl599, zkn599, zkg599, zkh599, zke599, zkf599, zka600, zkb600, zks600, zkt600, zkl600, zkn600, zkg600, zkh600, zke600, zkf600, zka601, zkb601, zks601, zkt601, zkl601, zkn601, zkg601, zkh601, zke601, zkf601, zka620, zkb620, zks620, zkt620, zkl620, zkn620, zkg620, zkh620, zke620, zkf620, zka920, zkb920, zks920, zkt920, zkl920, zkn920, zkg920, zkh920, zke920, zkf920, zka999, zkb999, zks999, zkt999, zkl999, zkn999, zkg999, zkh999, zke999, zkf999, zka1000, zkb1000, zks1000, zkt1000, zkl1000, zkn1000, zkg1000, zkh1000, zke1000, zkf1000, zka1024, zkb1024, zks1024, zkt1024, zkl1024, zkn1024, zkg1024, zkh1024, zke1024, zkf1024, zka1220, zkb1220, zks1220, zkt1220, zkl1220, zkn1220, zkg1220, zkh1220, zke1220, zkf1220, zka1260, zkb1260, zks1260, zkt1260, zkl1260, zkn1260, zkg1260, zkh1260, zke1260, zkf1260, zka1300, zkb1300, zks1300, zkt1300, zkl1300, zkn1300, zkg1300, zkh1300, zke1300, zkf1300, zka1500, zkb1500, zks1500, zkt1500, zkl1500, zkn1500, zkg1500, zkh1500, zke1500, zkf1500, zka1540, zkb1540, zks1540, zkt1540, zkl1540, zkn1540, zkg1540, zkh1540, zke1540, zkf1540, zka1604, zkb1604, zks1604, zkt1604, zkl1604, zkn1604, zkg1604, zkh1604, zke1604, zkf1604, zka1668, zkb1668, zks1668, zkt1668, zkl1668, zkn1668, zkg1668, zkh1668, zke1668, zkf1668, zka2000, zkb2000, zks2000, zkt2000, zkl2000, zkn2000, zkg2000, zkh2000, zke2000, zkf2000, zka4999, zkb4999, zks4999, zkt4999, zkl4999, zkn4999, zkg4999, zkh4999, zke4999, zkf4999, zka5000, zkb5000, zks5000, zkt5000, zkl5000, zkn5000, zkg5000, zkh5000, zke5000, zkf5000, zkm1, zn_add, zn_add1, zn_sub, zn_sub1, zn_mul, zn_lt, zn_le, zn_eq, zci, zcl, zcr, zcv, zrb0, zrb1, if_pos, if_neg, if_true, if_false]
    rw [hdiv, zx11 hc]
    exact f1
theorem c_lay {K : zKL} (hk : zKeys I 2 K) : ∃ I', zg_GP_lay_0 X 0 (zM b0 I J) = some (some (.int (Int32.ofNat (min 48 K.length))), zM b0 I' J) ∧ zCG I' 0 (zlayG (K.map (·.1)) (min 48 K.length) (min 48 K.length)) ∧ ∀ a, a ≠ 11 → I' a = I a := by
  obtain ⟨I1, e1, e2, e3⟩ := c_fill X (b0 := b0) (J := J) 64 0 I (by omega)
  have hl := hk.2.2.2
  have g1 : I1 2 2 = Int32.ofNat K.length := by rw [e2 2 (by decide)]; exact hk.1
  obtain ⟨I2, f1, f2, f3⟩ := c_even X (b0 := b0) (J := J) (K := K) (m := min 48 K.length) (by omega) (by omega) hl (min 48 K.length) 0 I1 (by omega) (by rw [e2 3 (by decide)]; exact hk.2.1) (fun c hc => by
    rw [show 11 + 0 = 11 from rfl, e3, if_pos (by omega)]; rfl)
  refine ⟨I2, ?_, f2, fun a ha => by rw [f3 a ha, e2 a ha]⟩
  have e1' : zg_Arrays_fill_0 X 11 (-1000000001) (zM b0 I J) = some (none, zM b0 I1 J) := by
    rw [zg_Arrays_fill_0_e, zlen' (a := 11) (t := 0) (n := 64) rfl (by decide)]
    exact e1
  have f1' : zg_Gaps_fillEvenly_21 X 10 2 (Int32.ofNat (min 48 K.length)) 0 (zM b0 I1 J) = _ := f1
  simp only [zg_GP_lay_0_e, zg_Gaps_fillEvenly_0_e, zM_I, zM_J, zM_P, zM_wI, zM_wL, zrf, zo0, zo1, zo2, zo7, zo10, zo12, zo16, zo17, zo22, zo25, zo27, zo31, zo33, zo40, zo42, zo43, zo46, zo109, zo111, zo112, zo115, zo178, zo181, zp0_0, zp0_1, zp0_3, zp0_4, zp0_5, zp0_6, zp0_7, zp1_0, zp1_1, zp1_3, zp1_5, zp1_6, zp1_7, zp2_0, zp2_1, zp7_0, zp7_1, zp10_0, zp12_0, zp12_1, zp12_3, zp16_0, zp16_1, zp16_3, zp16_5, zp16_6, zp16_7, zp17_0, zp17_1, zp22_0, zp22_1, zp25_0, zp27_0, zp27_1, zp27_3, zp31_0, zp31_2, zp31_3, zp31_6, zp31_7, zp31_8, zp33_0, zp33_1, zp40_0, zp40_1, zp42_0, zp42_1, zp43_0, zp43_1, zp46_0, zp46_1, zp109_0, zp109_1, zp111_0, zp111_1, zp112_0, zp112_1, zp115_0, zp115_1, zp178_0, zp181_0, zp181_1, zp181_2, zp181_4, zp181_5, zp181_6, zp181_17, zp181_18, zp181_19, zp181_20, zp181_21, zp181_22, zp181_23, zp181_24, zp181_31, zp181_32, zx3, zx4, zx5, zx6, zx8, zx9, zx11, zx13, zx14, zx15, zx18, zx19, zx20, zx21, zx23, zx24, zx26, zx28, zx29, zx30, zx32, zx34, zx35, zx36, zx37, zx38, zx39, zx44, zx45, zx47, zx48, zx113, zx114, zx116, zx117, zx179, zx180, zx182, zx183, zx184, zx185, zx186, zx187, zx253, zx254, zx255, zx256, zx257, zx182, zw_0, zw_1, zw_2, zw_3, zw_4, zw_5, zw_6, zw_7, zw_8, zw_9, zw_10, zw_11, zw_12, zw_13, zw_14, zx6_0, zx6_1, zx6_2, zx6_3, zx6_4, zx6_5, zx6_6, zx6_7, zx21_0, zx21_1, zx21_2, zx21_3, zx21_4, zx21_5, zx21_6, zx21_7, zx36_0, zx36_1, zx36_2, zx36_3, zx36_4, zx36_5, zx36_6, zx36_7, zka0, zkb0, zks0, zkt0, zkl0, zkn0, zkg0, zkh0, zke0, zkf0, zka1, zkb1, zks1, zkt1, zkl1, zkn1, zkg1, zkh1, zke1, zkf1, zka2, zkb2, zks2, zkt2, zkl2, zkn2, zkg2, zkh2, zke2, zkf2, zka3, zkb3, zks3, zkt3, zkl3, zkn3, zkg3, zkh3, zke3, zkf3, zka4, zkb4, zks4, zkt4, zkl4, zkn4, zkg4, zkh4, zke4, zkf4, zka5, zkb5, zks5, zkt5, zkl5, zkn5, zkg5, zkh5, zke5, zkf5, zka6, zkb6, zks6, zkt6, zkl6, zkn6, zkg6, zkh6, zke6, zkf6, zka7, zkb7, zks7, zkt7, zkl7, zkn7, zkg7, zkh7, zke7, zkf7, zka8, zkb8, zks8, zkt8, zkl8, zkn8, zkg8, zkh8, zke8, zkf8, zka9, zkb9, zks9, zkt9, zkl9, zkn9, zkg9, zkh9, zke9, zkf9, zka10, zkb10, zks10, zkt10, zkl10, zkn10, zkg10, zkh10, zke10, zkf10, zka11, zkb11, zks11, zkt11, zkl11, zkn11, zkg11, zkh11, zke11, zkf11, zka12, zkb12, zks12, zkt12, zkl12, zkn12, zkg12, zkh12, zke12, zkf12, zka13, zkb13, zks13, zkt13, zkl13, zkn13, zkg13, zkh13, zke13, zkf13, zka14, zkb14, zks14, zkt14, zkl14, zkn14, zkg14, zkh14, zke14, zkf14, zka15, zkb15, zks15, zkt15, zkl15, zkn15, zkg15, zkh15, zke15, zkf15, zka16, zkb16, zks16, zkt16, zkl16, zkn16, zkg16, zkh16, zke16, zkf16, zka19, zkb19, zks19, zkt19, zkl19, zkn19, zkg19, zkh19, zke19, zkf19, zka20, zkb20, zks20, zkt20, zkl20, zkn20, zkg20, zkh20, zke20, zkf20, zka24, zkb24, zks24, zkt24, zkl24, zkn24, zkg24, zkh24, zke24, zkf24, zka27, zkb27, zks27, zkt27, zkl27, zkn27, zkg27, zkh27, zke27, zkf27, zka31, zkb31, zks31, zkt31, zkl31, zkn31, zkg31, zkh31, zke31, zkf31, zka32, zkb32, zks32, zkt32, zkl32, zkn32, zkg32, zkh32, zke32, zkf32, zka40, zkb40, zks40, zkt40, zkl40, zkn40, zkg40, zkh40, zke40, zkf40, zka48, zkb48, zks48, zkt48, zkl48, zkn48, zkg48, zkh48, zke48, zkf48, zka50, zkb50, zks50, zkt50, zkl50, zkn50, zkg50, zkh50, zke50, zkf50, zka60, zkb60, zks60, zkt60, zkl60, zkn60, zkg60, zkh60, zke60, zkf60, zka64, zkb64, zks64, zkt64, zkl64, zkn64, zkg64, zkh64, zke64, zkf64, zka99, zkb99, zks99, zkt99, zkl99, zkn99, zkg99, zkh99, zke99, zkf99, zka100, zkb100, zks100, zkt100, zkl100, zkn100, zkg100, zkh100, zke100, zkf100, zka300, zkb300, zks300, zkt300, zkl300, zkn300, zkg300, zkh300, zke300, zkf300, zka302, zkb302, zks302, zkt302, zkl302, zkn302, zkg302, zkh302, zke302, zkf302, zka320, zkb320, zks320, zkt320, zkl320, zkn320, zkg320, zkh320, zke320, zkf320, zka512, zkb512, zks512, zkt512, zkl512, zkn512, zkg512, zkh512, zke512, zkf512, zka599, zkb599, zks599, zkt599, zkl599, zkn599, zkg599, zkh599, zke599, zkf599, zka600, zkb600, zks600, zkt600, zkl600, zkn600, zkg600, zkh600, zke600, zkf600, zka601, zkb601, zks601, zkt601, zkl601, zkn601, zkg601, zkh601, zke601, zkf601, zka620, zkb620, zks620, zkt620, zkl620, zkn620, zkg620, zkh620, zke620, zkf620, zka920, zkb920, zks920, zkt920, zkl920, zkn920, zkg920, zkh920, zke920, zkf920, zka999, zkb999, zks999, zkt999, zkl999, zkn999, zkg999, zkh999, zke999, zkf999, zka1000, zkb1000, zks1000, zkt1000, zkl1000, zkn1000, zkg1000, zkh1000, zke1000, zkf1000, zka1024, zkb1024, zks1024, zkt1024, zkl1024, zkn1024, zkg1024, zkh1024, zke1024, zkf1024, zka1220, zkb1220, zks1220, zkt1220, zkl1220, zkn1220, zkg1220, zkh1220, zke1220, zkf1220, zka1260, zkb1260, zks1260, zkt1260, zkl1260, zkn1260, zkg1260, zkh1260, zke1260, zkf1260, zka1300, zkb1300, zks1300, zkt1300, zkl1300, zkn1300, zkg1300, zkh1300, zke1300, zkf1300, zka1500, zkb1500, zks1500, zkt1500, zkl1500, zkn1500, zkg1500, zkh1500, zke1500, zkf1500, zka1540, zkb1540, zks1540, zkt1540, zkl1540, zkn1540, zkg1540, zkh1540, zke1540, zkf1540, zka1604, zkb1604, zks1604, zkt1604, zkl1604, zkn1604, zkg1604, zkh1604, zke1604, zkf1604, zka1668, zkb1668, zks1668, zkt1668, zkl1668, zkn1668, zkg1668, zkh1668, zke1668, zkf1668, zka2000, zkb2000, zks2000, zkt2000, zkl2000, zkn2000, zkg2000, zkh2000, zke2000, zkf2000, zka4999, zkb4999, zks4999, zkt4999, zkl4999, zkn4999, zkg4999, zkh4999, zke4999, zkf4999, zka5000, zkb5000, zks5000, zkt5000, zkl5000, zkn5000, zkg5000, zkh5000, zke5000, zkf5000, zkm1, zn_add, zn_add1, zn_sub, zn_sub1, zn_mul, zn_lt, zn_le, zn_eq, zci, zcl, zcr, zcv, zrb0, zrb1, if_pos, if_neg, if_true, if_false, e1', g1]
  have := s_minN X 48 K.length (zM b0 I1 J) (by decide) (by omega)
  rw [show zg_Math_min0_0 X 48 (Int32.ofNat K.length) (zM b0 I1 J) = _ from this, zci, f1', zci]
theorem zab_next {k a1 b : Nat} (h : zab G x (k + 1) 64 a1 b) (hk : k < 64) (hx : G k ≠ x) : (G k = zN → zab G x k 64 a1 b) ∧ (G k ≠ zN → x < G k → zab G x k 64 a1 k) ∧ (G k ≠ zN → ¬ x < G k → zab G x k 64 (max a1 (k + 1)) b) := by
  obtain ⟨p1, p2, p3, p4⟩ := h
  rw [ne_eq, zi_eq] at hx
  refine ⟨fun c => ⟨fun i h1 h2 h3 h4 => ?_, ?_, fun i h1 h2 h3 h4 => ?_, ?_⟩, fun c d => ⟨fun i h1 h2 h3 h4 => ?_, ?_, fun i h1 h2 h3 h4 => ?_, ?_⟩, fun c d => ⟨fun i h1 h2 h3 h4 => ?_, ?_, fun i h1 h2 h3 h4 => ?_, ?_⟩⟩
  · rcases Nat.lt_or_ge k i with e | e
    · exact p1 i e h2 h3 h4
    · have : i = k := by omega
      subst this; exact absurd c h3
  · rcases p2 with q | q
    · exact Or.inl q
    · exact Or.inr ⟨by omega, q.2⟩
  · rcases Nat.lt_or_ge k i with e | e
    · exact p3 i e h2 h3 h4
    · have : i = k := by omega
      subst this; exact absurd c h3
  · rcases p4 with q | q
    · exact Or.inl q
    · exact Or.inr ⟨by omega, q.2⟩
  · rcases Nat.lt_or_ge k i with e | e
    · exact p1 i e h2 h3 h4
    · have : i = k := by omega
      subst this
      rw [zi_lt] at d h4; omega
  · rcases p2 with q | q
    · exact Or.inl q
    · exact Or.inr ⟨by omega, q.2⟩
  · exact h1
  · exact Or.inr ⟨Nat.le_refl _, hk, c, d⟩
  · rcases Nat.lt_or_ge k i with e | e
    · have := p1 i e h2 h3 h4; omega
    · omega
  · rcases p2 with q | q
    · refine Or.inr ⟨by omega, by omega, ?_, ?_⟩
      · rw [show max a1 (k + 1) - 1 = k by omega]; exact c
      · rw [show max a1 (k + 1) - 1 = k by omega]; rw [zi_lt] at *; omega
    · rw [show max a1 (k + 1) = a1 by omega]
      exact Or.inr ⟨by omega, q.2⟩
  · rcases Nat.lt_or_ge k i with e | e
    · exact p3 i e h2 h3 h4
    · have : i = k := by omega
      subst this; exact absurd h4 d
  · rcases p4 with q | q
    · exact Or.inl q
    · exact Or.inr ⟨by omega, q.2⟩
theorem zmaxA {a1 k : Nat} (ha : a1 ≤ 64) (hk : k < 64) (M : zv_M) : zg_Math_max0_0 X (Int32.ofNat a1 - 1) (Int32.ofNat k) M = some (some (.int (Int32.ofNat (max a1 (k + 1)) - 1)), M) := by
  rcases Nat.eq_zero_or_pos a1 with d | d
  · subst d
    rw [s_max, if_pos]
    · rw [show max 0 (k + 1) = k + 1 by omega, zn_sub1 (by omega), Nat.add_sub_cancel]
    · rw [zi_lt, zn_int (by omega)]
      have : (Int32.ofNat 0 - 1).toInt = -1 := by decide
      omega
  · rw [zn_sub1 d, s_maxN X _ _ _ (by omega) (by omega), zn_sub1 (by omega), show max (a1 - 1) k = max a1 (k + 1) - 1 by omega]
theorem c_sq9 (hg : zCG I 0 G) (hxN : x ≠ zN) (hn : ∀ i, i < 64 → G i ≠ x) : ∀ (k a1 b : Nat), k ≤ 64 → zab G x k 64 a1 b → ∃ a1' b', zab G x 0 64 a1' b' ∧ zg_Gaps_squeezeIn_9 X 10 x (Int32.ofNat a1 - 1) (Int32.ofNat b) (Int32.ofNat k - 1) (zM b0 I J) = zg_Gaps_squeezeIn_81 X 10 x (Int32.ofNat a1' - 1) (Int32.ofNat b') (zM b0 I J) := by
  intro k
  induction k with
  | zero =>
    intro a1 b _ h
    refine ⟨a1, b, h, ?_⟩
    rw [zg_Gaps_squeezeIn_9_e, if_pos (by decide)]
  | succ k ih =>
    intro a1 b hk h
    have hv : I 11 k = G k := hg k (by omega)
    have hne := hn k (by omega)
    obtain ⟨q1, q2, q3⟩ := zab_next h (by omega) hne
    have ha64 : a1 ≤ 64 := by rcases h.2.1 with q | q <;> omega
    have e75 : ∀ l2 l3, zg_Gaps_squeezeIn_75 X 10 x l2 l3 (Int32.ofNat k) (zM b0 I J) = zg_Gaps_squeezeIn_9 X 10 x l2 l3 (Int32.ofNat k - 1) (zM b0 I J) := fun l2 l3 => by
      rw [zg_Gaps_squeezeIn_75_e, Int32.sub_eq_add_neg]
    have key : zg_Gaps_squeezeIn_9 X 10 x (Int32.ofNat a1 - 1) (Int32.ofNat b) (Int32.ofNat (k + 1) - 1) (zM b0 I J) = if G k = zN then zg_Gaps_squeezeIn_9 X 10 x (Int32.ofNat a1 - 1) (Int32.ofNat b) (Int32.ofNat k - 1) (zM b0 I J) else if x < G k then zg_Gaps_squeezeIn_9 X 10 x (Int32.ofNat a1 - 1) (Int32.ofNat k) (Int32.ofNat k - 1) (zM b0 I J) else zg_Gaps_squeezeIn_9 X 10 x (Int32.ofNat (max a1 (k + 1)) - 1) (Int32.ofNat b) (Int32.ofNat k - 1) (zM b0 I J) := by
      rw [show Int32.ofNat (k + 1) - 1 = Int32.ofNat k by rw [zn_sub1 (by omega), Nat.add_sub_cancel], zg_Gaps_squeezeIn_9_e, if_neg (fun q => absurd ((zkl0 (by omega)).mp q) (by omega))]
      rw [zo10, zM_P, zp10_0, zrf, zx11 (by omega), zM_I, hv, if_neg hne, zg_Gaps_squeezeIn_27_e, zo10, zM_P, zp10_0, zrf, zx11 (by omega), zM_I, hv, zg_Gaps_squeezeIn_56_e, zo10, zM_P, zp10_0, zrf, zx11 (by omega), zM_I, hv, zmaxA X ha64 (by omega), zci, e75, e75, e75, zo10, zrf, zx11 (by omega), hv]
      show (if G k = zN then if G k = zN then _ else _ else _) = _
      by_cases c : G k = zN
      · rw [if_pos c, if_pos c, if_pos c]
      · rw [if_neg c, if_neg c, zN_e, if_neg c]
        by_cases d : x < G k
        · rw [if_pos d, if_neg (by rw [zi_lt] at d; rw [zi_le]; omega)]
        · rw [if_neg d, if_pos (by rw [zi_lt] at d; rw [zi_le]; omega)]
    rw [key]
    by_cases c : G k = zN
    · rw [if_pos c]
      exact ih _ _ (by omega) (q1 c)
    · rw [if_neg c]
      by_cases d : x < G k
      · rw [if_pos d]
        exact ih _ _ (by omega) (q2 c d)
      · rw [if_neg d]
        exact ih _ _ (by omega) (q3 c d)
theorem c_sq_same (hg : zCG I 0 G) {c : Nat} (hc : c < 64) (hx : G c = x) : ∀ (m k : Nat), k = c + 1 + m → k ≤ 64 → (∀ i, c < i → i < 64 → G i ≠ x) → ∀ l2 l3, zg_Gaps_squeezeIn_9 X 10 x l2 l3 (Int32.ofNat k - 1) (zM b0 I J) = some (some (.int (-1)), zM b0 I J) := by
  intro m
  induction m with
  | zero =>
    intro k hk hk' hn l2 l3
    have hv : I 11 c = G c := hg c hc
    rw [zn_sub1 (by omega), show k - 1 = c by omega, zg_Gaps_squeezeIn_9_e, if_neg (fun q => absurd ((zkl0 (by omega)).mp q) (by omega)), zo10, zM_P, zp10_0, zrf, zx11 (by omega), zM_I, hv, if_pos hx]
  | succ m ih =>
    intro k hk hk' hn l2 l3
    have hv : I 11 (k - 1) = G (k - 1) := hg _ (by omega)
    have hne := hn (k - 1) (by omega) (by omega)
    have e75 : ∀ l2 l3, zg_Gaps_squeezeIn_75 X 10 x l2 l3 (Int32.ofNat (k - 1)) (zM b0 I J) = some (some (.int (-1)), zM b0 I J) := fun l2 l3 => by
      rw [zg_Gaps_squeezeIn_75_e, ← Int32.sub_eq_add_neg, ih (k - 1) (by omega) (by omega) hn]
    rw [zn_sub1 (by omega), zg_Gaps_squeezeIn_9_e, if_neg (fun q => absurd ((zkl0 (by omega)).mp q) (by omega)), zo10, zM_P, zp10_0, zrf, zx11 (by omega), zM_I, hv, if_neg hne, zg_Gaps_squeezeIn_27_e, zo10, zM_P, zp10_0, zrf, zx11 (by omega), zM_I, hv, zg_Gaps_squeezeIn_56_e, zo10, zM_P, zp10_0, zrf, zx11 (by omega), zM_I, hv, s_max, zci, e75, e75, e75, zo10, zrf, zx11 (by omega)]
    split <;> first | rfl | (split <;> rfl)
theorem c_push5 (hg : zCG I 0 G) {a1 l : Nat} (ha : a1 ≤ 64) (hl : zlfG G a1 l) {l1 l2 : Int32} : ∀ m k, l + m = k → k ≤ a1 → zg_Gaps_push_5 X 10 l1 l2 x (Int32.ofNat k - 1) (zM b0 I J) = zg_Gaps_push_28 X 10 l1 l2 x (Int32.ofNat l - 1) (zM b0 I J) := by
  intro m
  induction m with
  | zero =>
    intro k hk hka
    have : k = l := by omega
    subst this
    rw [zg_Gaps_push_5_e]
    rcases Nat.eq_zero_or_pos k with c | c
    · subst c
      rw [if_pos (by decide)]
    · have h : G (k - 1) = zN := by
        rcases hl.2.2 with q | q
        · omega
        · exact q
      have hv : I 11 (k - 1) = G (k - 1) := hg _ (by omega)
      rw [zn_sub1 c, if_neg (fun q => absurd ((zkl0 (by omega)).mp q) (by omega)), zo10, zM_P, zp10_0, zrf, zx11 (by omega), zM_I, hv, zN_e, if_pos h]
  | succ m ih =>
    intro k hk hka
    have h : G (k - 1) ≠ zN := hl.2.1 _ (by omega) (by omega)
    have hv : I 11 (k - 1) = G (k - 1) := hg _ (by omega)
    rw [zg_Gaps_push_5_e, zn_sub1 (by omega), if_neg (fun q => absurd ((zkl0 (by omega)).mp q) (by omega)), zo10, zM_P, zp10_0, zrf, zx11 (by omega), zM_I, hv, zN_e, if_neg h]
    rw [← Int32.sub_eq_add_neg, ih (k - 1) (by omega) (by omega)]
theorem c_push33 (hg : zCG I 0 G) {b r : Nat} (hr : zrtG G b r) {l1 l2 l4 : Int32} : ∀ m k, k + m = r → b ≤ k → zg_Gaps_push_33 X 10 l1 l2 x l4 (Int32.ofNat k) (zM b0 I J) = zg_Gaps_push_58 X 10 l1 l2 x l4 (Int32.ofNat r) (zM b0 I J) := by
  have hr64 := hr.2.1
  intro m
  induction m with
  | zero =>
    intro k hk hka
    have : k = r := by omega
    subst this
    rw [zg_Gaps_push_33_e]
    rcases Nat.lt_or_ge k 64 with c | c
    · have h : G k = zN := by
        rcases hr.2.2.2 with q | q
        · omega
        · exact q
      have hv : I 11 k = G k := hg _ (by omega)
      rw [if_neg (fun q => absurd ((zkh64 (by omega)).mp q) (by omega)), zo10, zM_P, zp10_0, zrf, zx11 (by omega), zM_I, hv, zN_e, if_pos h]
    · rw [if_pos ((zkh64 (by omega)).mpr c)]
  | succ m ih =>
    intro k hk hka
    have h : G k ≠ zN := hr.2.2.1 _ (by omega) (by omega)
    have hv : I 11 k = G k := hg _ (by omega)
    rw [zg_Gaps_push_33_e, if_neg (fun q => absurd ((zkh64 (by omega)).mp q) (by omega)), zo10, zM_P, zp10_0, zrf, zx11 (by omega), zM_I, hv, zN_e, if_neg h, zn_add1, ih (k + 1) (by omega) (by omega)]
/-- the sides of push: left and right may stand one further where there is nothing -/
theorem c_push (hg : zCG I 0 G) {a1 l r : Nat} (hab : zab G x 0 64 a1 a1) (hl : zlfG G a1 l) (hr : zrtG G a1 r) : ∃ l4 l5, zg_Gaps_push_0 X 10 (Int32.ofNat a1 - 1) (Int32.ofNat a1) x (zM b0 I J) = zg_Gaps_push_58 X 10 (Int32.ofNat a1 - 1) (Int32.ofNat a1) x l4 l5 (zM b0 I J) ∧ (0 < l → l4 = Int32.ofNat (l - 1)) ∧ (l = 0 → l4 < 0) ∧ (r < 64 → l5 = Int32.ofNat r) ∧ (r = 64 → 64 ≤ l5) := by
  have ha64 : a1 ≤ 64 := by rcases hab.2.1 with q | q <;> omega
  have hla := hl.1
  have hra := hr.1
  have hr64 := hr.2.1
  have h1 : ∃ l4, zg_Gaps_push_0 X 10 (Int32.ofNat a1 - 1) (Int32.ofNat a1) x (zM b0 I J) = zg_Gaps_push_28 X 10 (Int32.ofNat a1 - 1) (Int32.ofNat a1) x l4 (zM b0 I J) ∧ (0 < l → l4 = Int32.ofNat (l - 1)) ∧ (l = 0 → l4 < 0) := by
    rw [zg_Gaps_push_0_e]
    rcases Nat.eq_zero_or_pos a1 with c | c
    · subst c
      refine ⟨Int32.ofNat 0 - 1 - 1, ?_, fun q => by omega, fun _ => by decide⟩
      rw [zg_Gaps_push_5_e, if_pos (by decide)]
    · refine ⟨Int32.ofNat l - 1, ?_, fun q => zn_sub1 q, fun q => by subst q; decide⟩
      have hfa : G (a1 - 1) ≠ zN := by
        rcases hab.2.1 with q | q
        · omega
        · exact q.2.2.1
      have hll : l < a1 := by
        rcases hl.2.2 with q | q
        · omega
        · rcases Nat.lt_or_ge l a1 with d | d
          · exact d
          · have : l = a1 := by omega
            rw [this] at q; exact absurd q hfa
      rw [zn_sub1 c]
      exact c_push5 X hg ha64 hl (a1 - 1 - l) (a1 - 1) (by omega) (by omega)
  obtain ⟨l4, e1, e2, e3⟩ := h1
  rw [e1, zg_Gaps_push_28_e]
  rcases Nat.lt_or_ge a1 64 with c | c
  · refine ⟨l4, Int32.ofNat r, ?_, e2, e3, fun _ => rfl, fun q => by rw [q]; decide⟩
    have hfa : G a1 ≠ zN := by
      rcases hab.2.2.2 with q | q
      · omega
      · exact q.2.2.1
    have hll : a1 < r := by
      rcases hr.2.2.2 with q | q
      · omega
      · rcases Nat.lt_or_ge a1 r with d | d
        · exact d
        · have : r = a1 := by omega
          rw [this] at q; exact absurd q hfa
    rw [zn_add1]
    exact c_push33 X hg hr (r - (a1 + 1)) (a1 + 1) (by omega) (by omega)
  · refine ⟨l4, Int32.ofNat a1 + 1, ?_, e2, e3, fun q => by omega, fun _ => by rw [zn_add1]; exact (zkh64 (by omega)).mpr (by omega)⟩
    rw [zg_Gaps_push_33_e, if_pos (by rw [zn_add1]; exact (zkh64 (by omega)).mpr (by omega))]
theorem c_push58 {l4 l5 : Int32} {l1 l2 : Int32} : zg_Gaps_push_58 X 10 l1 l2 x l4 l5 (zM b0 I J) = if l4 < 0 then (if 64 ≤ l5 then some (some (.int (-1)), zM b0 I J) else zg_Gaps_push_138 X 10 l2 x l5 1 (zM b0 I J)) else (if 64 ≤ l5 then zg_Gaps_push_105 X 10 l1 x l4 (zM b0 I J) else if l5 - l2 < l1 - l4 then zg_Gaps_push_138 X 10 l2 x l5 1 (zM b0 I J) else zg_Gaps_push_105 X 10 l1 x l4 (zM b0 I J)) := by
  have z : zg_Gaps_push_138 X 10 l2 x l5 0 (zM b0 I J) = some (some (.int (-1)), zM b0 I J) := by
    rw [zg_Gaps_push_138_e, if_pos rfl, zg_Gaps_push_174_e]
  rw [zg_Gaps_push_58_e]
  by_cases c : l4 < 0
  · rw [if_pos c, if_pos c, zg_Gaps_push_67_e, zg_Gaps_push_68_e]
    by_cases d : 64 ≤ l5
    · rw [if_pos d, if_pos d, zg_Gaps_push_81_e, zg_Gaps_push_82_e, if_pos rfl, z]
    · rw [if_neg d, if_neg d, zg_Gaps_push_82_e, if_pos rfl]
  · rw [if_neg c, if_neg c, zg_Gaps_push_68_e]
    by_cases d : 64 ≤ l5
    · rw [if_pos d, if_pos d, zg_Gaps_push_81_e, zg_Gaps_push_82_e, if_neg (by decide), if_pos rfl]
    · rw [if_neg d, if_neg d, zg_Gaps_push_82_e, if_neg (by decide), if_neg (by decide)]
theorem c_put (hg : zCG I 0 G) (hs : zgs G) (hx : ¬ (x < -999999999 ∨ 999999999 < x)) (hxN : x ≠ zN) {ans : Int32} {G' : Nat → Int32} (hp : zputs G x ans G') : ∃ I', zg_GP_put_0 X 0 x (zM b0 I J) = some (some (.int ans), zM b0 I' J) ∧ zCG I' 0 G' ∧ ∀ a, a ≠ 11 → I' a = I a := by
  have hcan : zg_GP_canBeKey_0 X x (zM b0 I J) = some (some (.int 1), zM b0 I J) := by
    rw [zg_GP_canBeKey_0_e, if_neg (fun q => hx (Or.inl q)), if_neg (fun q => hx (Or.inr q)), zg_GP_canBeKey_19_e, zrb1]
  have hstart : ∀ r, zg_Gaps_squeezeIn_9 X 10 x (Int32.ofNat 0 - 1) (Int32.ofNat 64) (Int32.ofNat 64 - 1) (zM b0 I J) = r → zg_GP_put_0 X 0 x (zM b0 I J) = zv_ci r (fun v M => some (some (.int v), M)) := fun r hr => by
    have e0 : zg_Gaps_squeezeIn_9 X 10 x (-1) 64 63 (zM b0 I J) = r := hr
    rw [zg_GP_put_0_e, hcan, zci, if_neg (by decide)]
    simp only [zM_I, zM_J, zM_P, zM_wI, zM_wL, zrf, zo0, zo1, zo2, zo7, zo10, zo12, zo16, zo17, zo22, zo25, zo27, zo31, zo33, zo40, zo42, zo43, zo46, zo109, zo111, zo112, zo115, zo178, zo181, zp0_0, zp0_1, zp0_3, zp0_4, zp0_5, zp0_6, zp0_7, zp1_0, zp1_1, zp1_3, zp1_5, zp1_6, zp1_7, zp2_0, zp2_1, zp7_0, zp7_1, zp10_0, zp12_0, zp12_1, zp12_3, zp16_0, zp16_1, zp16_3, zp16_5, zp16_6, zp16_7, zp17_0, zp17_1, zp22_0, zp22_1, zp25_0, zp27_0, zp27_1, zp27_3, zp31_0, zp31_2, zp31_3, zp31_6, zp31_7, zp31_8, zp33_0, zp33_1, zp40_0, zp40_1, zp42_0, zp42_1, zp43_0, zp43_1, zp46_0, zp46_1, zp109_0, zp109_1, zp111_0, zp111_1, zp112_0, zp112_1, zp115_0, zp115_1, zp178_0, zp181_0, zp181_1, zp181_2, zp181_4, zp181_5, zp181_6, zp181_17, zp181_18, zp181_19, zp181_20, zp181_21, zp181_22, zp181_23, zp181_24, zp181_31, zp181_32, zx3, zx4, zx5, zx6, zx8, zx9, zx11, zx13, zx14, zx15, zx18, zx19, zx20, zx21, zx23, zx24, zx26, zx28, zx29, zx30, zx32, zx34, zx35, zx36, zx37, zx38, zx39, zx44, zx45, zx47, zx48, zx113, zx114, zx116, zx117, zx179, zx180, zx182, zx183, zx184, zx185, zx186, zx187, zx253, zx254, zx255, zx256, zx257, zx182, zw_0, zw_1, zw_2, zw_3, zw_4, zw_5, zw_6, zw_7, zw_8, zw_9, zw_10, zw_11, zw_12, zw_13, zw_14, zx6_0, zx6_1, zx6_2, zx6_3, zx6_4, zx6_5, zx6_6, zx6_7, zx21_0, zx21_1, zx21_2, zx21_3, zx21_4, zx21_5, zx21_6, zx21_7, zx36_0, zx36_1, zx36_2, zx36_3, zx36_4, zx36_5, zx36_6, zx36_7, zka0, zkb0, zks0, zkt0, zkl0, zkn0, zkg0, zkh0, zke0, zkf0, zka1, zkb1, zks1, zkt1, zkl1, zkn1, zkg1, zkh1, zke1, zkf1, zka2, zkb2, zks2, zkt2, zkl2, zkn2, zkg2, zkh2, zke2, zkf2, zka3, zkb3, zks3, zkt3, zkl3, zkn3, zkg3, zkh3, zke3, zkf3, zka4, zkb4, zks4, zkt4, zkl4, zkn4, zkg4, zkh4, zke4, zkf4, zka5, zkb5, zks5, zkt5, zkl5, zkn5, zkg5, zkh5, zke5, zkf5, zka6, zkb6, zks6, zkt6, zkl6, zkn6, zkg6, zkh6, zke6, zkf6, zka7, zkb7, zks7, zkt7, zkl7, zkn7, zkg7, zkh7, zke7, zkf7, zka8, zkb8, zks8, zkt8, zkl8, zkn8, zkg8, zkh8, zke8, zkf8, zka9, zkb9, zks9, zkt9, zkl9, zkn9, zkg9, zkh9, zke9, zkf9, zka10, zkb10, zks10, zkt10, zkl10, zkn10, zkg10, zkh10, zke10, zkf10, zka11, zkb11, zks11, zkt11, zkl11, zkn11, zkg11, zkh11, zke11, zkf11, zka12, zkb12, zks12, zkt12, zkl12, zkn12, zkg12, zkh12, zke12, zkf12, zka13, zkb13, zks13, zkt13, zkl13, zkn13, zkg13, zkh13, zke13, zkf13, zka14, zkb14, zks14, zkt14, zkl14, zkn14, zkg14, zkh14, zke14, zkf14, zka15, zkb15, zks15, zkt15, zkl15, zkn15, zkg15, zkh15, zke15, zkf15, zka16, zkb16, zks16, zkt16, zkl16, zkn16, zkg16, zkh16, zke16, zkf16, zka19, zkb19, zks19, zkt19, zkl19, zkn19, zkg19, zkh19, zke19, zkf19, zka20, zkb20, zks20, zkt20, zkl20, zkn20, zkg20, zkh20, zke20, zkf20, zka24, zkb24, zks24, zkt24, zkl24, zkn24, zkg24, zkh24, zke24, zkf24, zka27, zkb27, zks27, zkt27, zkl27, zkn27, zkg27, zkh27, zke27, zkf27, zka31, zkb31, zks31, zkt31, zkl31, zkn31, zkg31, zkh31, zke31, zkf31, zka32, zkb32, zks32, zkt32, zkl32, zkn32, zkg32, zkh32, zke32, zkf32, zka40, zkb40, zks40, zkt40, zkl40, zkn40, zkg40, zkh40, zke40, zkf40, zka48, zkb48, zks48, zkt48, zkl48, zkn48, zkg48, zkh48, zke48, zkf48, zka50, zkb50, zks50, zkt50, zkl50, zkn50, zkg50, zkh50, zke50, zkf50, zka60, zkb60, zks60, zkt60, zkl60, zkn60, zkg60, zkh60, zke60, zkf60, zka64, zkb64, zks64, zkt64, zkl64, zkn64, zkg64, zkh64, zke64, zkf64, zka99, zkb99, zks99, zkt99, zkl99, zkn99, zkg99, zkh99, zke99, zkf99, zka100, zkb100, zks100, zkt100, zkl100, zkn100, zkg100, zkh100, zke100, zkf100, zka300, zkb300, zks300, zkt300, zkl300, zkn300, zkg300, zkh300, zke300, zkf300, zka302, zkb302, zks302, zkt302, zkl302, zkn302, zkg302, zkh302, zke302, zkf302, zka320, zkb320, zks320, zkt320, zkl320, zkn320, zkg320, zkh320, zke320, zkf320, zka512, zkb512, zks512, zkt512, zkl512, zkn512, zkg512, zkh512, zke512, zkf512, zka599, zkb599, zks599, zkt599, zkl599, zkn599, zkg599, zkh599, zke599, zkf599, zka600, zkb600, zks600, zkt600, zkl600, zkn600, zkg600, zkh600, zke600, zkf600, zka601, zkb601, zks601, zkt601, zkl601, zkn601, zkg601, zkh601, zke601, zkf601, zka620, zkb620, zks620, zkt620, zkl620, zkn620, zkg620, zkh620, zke620, zkf620, zka920, zkb920, zks920, zkt920, zkl920, zkn920, zkg920, zkh920, zke920, zkf920, zka999, zkb999, zks999, zkt999, zkl999, zkn999, zkg999, zkh999, zke999, zkf999, zka1000, zkb1000, zks1000, zkt1000, zkl1000, zkn1000, zkg1000, zkh1000, zke1000, zkf1000, zka1024, zkb1024, zks1024, zkt1024, zkl1024, zkn1024, zkg1024, zkh1024, zke1024, zkf1024, zka1220, zkb1220, zks1220, zkt1220, zkl1220, zkn1220, zkg1220, zkh1220, zke1220, zkf1220, zka1260, zkb1260, zks1260, zkt1260, zkl1260, zkn1260, zkg1260, zkh1260, zke1260, zkf1260, zka1300, zkb1300, zks1300, zkt1300, zkl1300, zkn1300, zkg1300, zkh1300, zke1300, zkf1300, zka1500, zkb1500, zks1500, zkt1500, zkl1500, zkn1500, zkg1500, zkh1500, zke1500, zkf1500, zka1540, zkb1540, zks1540, zkt1540, zkl1540, zkn1540, zkg1540, zkh1540, zke1540, zkf1540, zka1604, zkb1604, zks1604, zkt1604, zkl1604, zkn1604, zkg1604, zkh1604, zke1604, zkf1604, zka1668, zkb1668, zks1668, zkt1668, zkl1668, zkn1668, zkg1668, zkh1668, zke1668, zkf1668, zka2000, zkb2000, zks2000, zkt2000, zkl2000, zkn2000, zkg2000, zkh2000, zke2000, zkf2000, zka4999, zkb4999, zks4999, zkt4999, zkl4999, zkn4999, zkg4999, zkh4999, zke4999, zkf4999, zka5000, zkb5000, zks5000, zkt5000, zkl5000, zkn5000, zkg5000, zkh5000, zke5000, zkf5000, zkm1, zn_add, zn_add1, zn_sub, zn_sub1, zn_mul, zn_lt, zn_le, zn_eq, zci, zcl, zcr, zcv, zrb0, zrb1, if_pos, if_neg, if_true, if_false, zg_GP_put_22_e, zg_Gaps_squeezeIn_0_e, e0]
  rcases hp with ⟨hex, rfl, rfl⟩ | ⟨hn, a1, b, hab, hp⟩
  · have : ∃ c, c < 64 ∧ G' c = x ∧ ∀ i, c < i → i < 64 → G' i ≠ x := by
      obtain ⟨i, hi, he⟩ := hex
      suffices H : ∀ m i, i + m = 63 → G' i = x → ∃ c, c < 64 ∧ G' c = x ∧ ∀ i, c < i → i < 64 → G' i ≠ x from H (63 - i) i (by omega) he
      intro m
      induction m using Nat.strongRecOn with
      | _ m ih =>
        intro i hi he
        rcases Classical.em (∃ j, i < j ∧ j < 64 ∧ G' j = x) with ⟨j, h1, h2, h3⟩ | hno
        · exact ih (63 - j) (by omega) j (by omega) h3
        · exact ⟨i, by omega, he, fun j h1 h2 h3 => hno ⟨j, h1, h2, h3⟩⟩
    obtain ⟨c, hc, he, hb⟩ := this
    refine ⟨I, ?_, hg, fun a _ => rfl⟩
    rw [hstart _ (c_sq_same X hg hc he (63 - c) 64 (by omega) (Nat.le_refl _) hb _ _), zci]
  · obtain ⟨a1', b', hab', e1⟩ := c_sq9 X (b0 := b0) (J := J) hg hxN hn 64 0 64 (Nat.le_refl _) ⟨fun i h1 h2 => by omega, Or.inl rfl, fun i h1 h2 => by omega, Or.inl rfl⟩
    obtain ⟨rfl, rfl⟩ := zab_uniq hab hab'
    have ha64 : a1 ≤ 64 := by rcases hab.2.1 with q | q <;> omega
    have hb64 : b ≤ 64 := by rcases hab.2.2.2 with q | q <;> omega
    rw [hstart _ e1, zg_Gaps_squeezeIn_81_e]
    rcases hp with ⟨c, rfl, rfl⟩ | ⟨rfl, l, r, hl, hr, hp⟩
    · have hsub : ¬ (Int32.ofNat b - (Int32.ofNat a1 - 1) ≤ 1) ∧ ((Int32.ofNat a1 - 1) + Int32.ofNat b) / 2 = Int32.ofNat ((a1 + b - 1) / 2) := by
        rcases Nat.eq_zero_or_pos a1 with d | d
        · subst d
          have e1 : Int32.ofNat b - (Int32.ofNat 0 - 1) = Int32.ofNat (b + 1) := by
            rw [← zn_add1]
            show Int32.ofNat b - (0 - 1) = _
            rw [Int32.sub_eq_add_neg]; rfl
          have e2 : (Int32.ofNat 0 - 1) + Int32.ofNat b = Int32.ofNat (b - 1) := by
            rw [show Int32.ofNat 0 - 1 = (-1 : Int32) by decide, Int32.add_comm, ← Int32.sub_eq_add_neg, zn_sub1 (by omega)]
          rw [e1, e2]
          refine ⟨fun q => absurd ((zkn1 (by omega)).mp q) (by omega), ?_⟩
          rw [zkd2 (by omega), Nat.zero_add]
        · rw [zn_sub1 d, zn_sub (by omega), zn_add]
          refine ⟨fun q => absurd ((zkn1 (by omega)).mp q) (by omega), ?_⟩
          rw [zkd2 (by omega)]
          congr 2
          omega
      refine ⟨zst I 11 ((a1 + b - 1) / 2) x, ?_, fun c hc => ?_, fun a ha => zst_ne ha⟩
      · rw [if_neg hsub.1, zo10, zM_P, zp10_0, zrf, if_neg (by decide), hsub.2, zx11 (by omega), zci, zM_wI]
      · unfold zgu
        by_cases e : c = (a1 + b - 1) / 2
        · rw [if_pos e, e]; exact zst_self
        · rw [if_neg e]
          exact (zst_off e).trans (hg c hc)
    · have hsub : (Int32.ofNat a1 - (Int32.ofNat a1 - 1) ≤ 1) := by
        rcases Nat.eq_zero_or_pos a1 with d | d
        · subst d; decide
        · rw [zn_sub1 d, zn_sub (by omega)]
          exact (zkn1 (by omega)).mpr (by omega)
      obtain ⟨l4, l5, q1, q2, q3, q4, q5⟩ := c_push X (b0 := b0) (J := J) hg hab hl hr
      have hla := hl.1
      have hra := hr.1
      have hr64 := hr.2.1
      rw [if_pos hsub, zg_Gaps_squeezeIn_101_e, zo10, q1, c_push58]
      have c105 : 0 < l → ∃ I', zg_Gaps_push_105 X 10 (Int32.ofNat a1 - 1) x l4 (zM b0 I J) = some (some (.int (Int32.ofNat (a1 - l))), zM b0 I' J) ∧ zCG I' 0 (zshl G x a1 l) ∧ ∀ a, a ≠ 11 → I' a = I a := fun hl0 => by
        refine ⟨zst (va_up I 11 (va_cpy (I 11) (I 11) l (l - 1) (a1 - l))) 11 (a1 - 1) x, ?_, fun c hc => ?_, fun a ha => by rw [zst_ne ha, zup_ne ha]⟩
        · rw [zg_Gaps_push_105_e, q2 hl0, zn_sub1 (by omega), zn_sub (by omega), zn_add1, zo10, zM_P, zp10_0, zrf, zo10, zrf, show a1 - 1 - (l - 1) = a1 - l by omega, show l - 1 + 1 = l by omega, zac (a := 11) (b' := 11) (n := 64) (n' := 64) rfl rfl (by omega) (by omega) (by decide) (by decide) (by decide), zo10, zM_P, zp10_0, zrf, zx11 (by omega), zM_wI]
        · show zst (va_up I 11 (va_cpy (I 11) (I 11) l (l - 1) (a1 - l))) 11 (a1 - 1) x 11 c = zshl G x a1 l c
          rw [zst_at, zup_same]
          unfold va_cpy zshl
          have h1 := hg c hc
          have h2 := fun (h : c + 1 < 64) => hg (c + 1) h
          simp only [Nat.add_zero] at h1 h2
          by_cases k1 : l ≤ c + 1 ∧ c + 1 < a1
          · rw [if_pos k1, if_neg (by omega), if_pos (by omega), ← h2 (by omega)]
            congr 1; omega
          · rw [if_neg k1]
            by_cases k2 : c + 1 = a1
            · rw [if_pos k2, if_pos (by omega)]
            · rw [if_neg k2, if_neg (by omega), if_neg (by omega), h1]
      have c138 : r < 64 → ∃ I', zg_Gaps_push_138 X 10 (Int32.ofNat a1) x l5 1 (zM b0 I J) = some (some (.int (Int32.ofNat (r - a1))), zM b0 I' J) ∧ zCG I' 0 (zshr G x a1 r) ∧ ∀ a, a ≠ 11 → I' a = I a := fun hr0 => by
        refine ⟨zst (va_up I 11 (va_cpy (I 11) (I 11) a1 (a1 + 1) (r - a1))) 11 a1 x, ?_, fun c hc => ?_, fun a ha => by rw [zst_ne ha, zup_ne ha]⟩
        · rw [zg_Gaps_push_138_e, if_neg (by decide), q4 hr0, zn_sub (by omega), zn_add1, zo10, zM_P, zp10_0, zrf, zo10, zrf, zac (a := 11) (b' := 11) (n := 64) (n' := 64) rfl rfl (by omega) (by omega) (by decide) (by decide) (by decide), zo10, zM_P, zp10_0, zrf, zx11 (by omega), zM_wI]
        · show zst (va_up I 11 (va_cpy (I 11) (I 11) a1 (a1 + 1) (r - a1))) 11 a1 x 11 c = zshr G x a1 r c
          rw [zst_at, zup_same]
          unfold va_cpy zshr
          have h1 := hg c hc
          have h2 := hg (c - 1) (by omega)
          simp only [Nat.add_zero] at h1 h2
          by_cases k1 : a1 < c ∧ c ≤ r
          · rw [if_pos k1, if_neg (by omega), if_pos (by omega), ← h2]
            congr 1; omega
          · rw [if_neg k1]
            by_cases k2 : c = a1
            · rw [if_pos k2, if_pos (by omega)]
            · rw [if_neg k2, if_neg (by omega), if_neg (by omega), h1]
      have nl4 : 0 < l → ¬ l4 < 0 := fun q => by rw [q2 q]; exact fun q => absurd ((zkl0 (by omega)).mp q) (by omega)
      have nl5 : r < 64 → ¬ 64 ≤ l5 := fun q => by rw [q4 q]; exact fun q => absurd ((zkh64 (by omega)).mp q) (by omega)
      rcases hp with ⟨h1, h2, rfl, rfl⟩ | ⟨h1, h2, rfl, rfl⟩ | ⟨h1, h2, rfl, rfl⟩
      · refine ⟨I, ?_, hg, fun a _ => rfl⟩
        rw [if_pos (q3 h1), if_pos (q5 h2), zci, zci]
      · obtain ⟨I1, e1, e2, e3⟩ := c105 h1
        refine ⟨I1, ?_, e2, e3⟩
        rw [if_neg (nl4 h1)]
        rcases Nat.lt_or_ge r 64 with d | d
        · rw [if_neg (nl5 d), if_neg, e1, zci, zci]
          rw [q2 h1, q4 d, zn_sub1 (by omega), zn_sub (by omega), zn_sub (by omega)]
          exact fun q => absurd ((zn_lt (by omega) (by omega)).mp q) (by omega)
        · rw [if_pos (q5 (by omega)), e1, zci, zci]
      · obtain ⟨I1, e1, e2, e3⟩ := c138 h1
        refine ⟨I1, ?_, e2, e3⟩
        rcases Nat.eq_zero_or_pos l with d | d
        · rw [if_pos (q3 d), if_neg (nl5 h1), e1, zci, zci]
        · rw [if_neg (nl4 d), if_neg (nl5 h1), if_pos, e1, zci, zci]
          rw [q2 d, q4 h1, zn_sub1 (by omega), zn_sub (by omega), zn_sub (by omega)]
          exact (zn_lt (by omega) (by omega)).mpr (by omega)
theorem c_cell (hg : zCG I 0 G) (i : Int32) : zg_GP_cell_0 X 0 i (zM b0 I J) = some (some (.int (if i < 0 ∨ 63 < i then zN else G i.toInt.toNat)), zM b0 I J) := by
  rw [zg_GP_cell_0_e]
  by_cases h : i < 0
  · rw [if_pos h, if_pos (Or.inl h), zg_GP_cell_25_e, zg_GP_cell_27_e]; rfl
  · rw [if_neg h]
    obtain ⟨k, hk, rfl, ek⟩ := zidx h
    rw [ek]
    by_cases h2 : k < 64
    · rw [if_neg (fun q => absurd ((zkh64 (by omega)).mp q) (by omega)), if_neg]
      · have hv : I 11 k = G k := hg k h2
        simp (disch := omega) only [zM_I, zM_J, zM_P, zM_wI, zM_wL, zrf, zo0, zo1, zo2, zo7, zo10, zo12, zo16, zo17, zo22, zo25, zo27, zo31, zo33, zo40, zo42, zo43, zo46, zo109, zo111, zo112, zo115, zo178, zo181, zp0_0, zp0_1, zp0_3, zp0_4, zp0_5, zp0_6, zp0_7, zp1_0, zp1_1, zp1_3, zp1_5, zp1_6, zp1_7, zp2_0, zp2_1, zp7_0, zp7_1, zp10_0, zp12_0, zp12_1, zp12_3, zp16_0, zp16_1, zp16_3, zp16_5, zp16_6, zp16_7, zp17_0, zp17_1, zp22_0, zp22_1, zp25_0, zp27_0, zp27_1, zp27_3, zp31_0, zp31_2, zp31_3, zp31_6, zp31_7, zp31_8, zp33_0, zp33_1, zp40_0, zp40_1, zp42_0, zp42_1, zp43_0, zp43_1, zp46_0, zp46_1, zp109_0, zp109_1, zp111_0, zp111_1, zp112_0, zp112_1, zp115_0, zp115_1, zp178_0, zp181_0, zp181_1, zp181_2, zp181_4, zp181_5, zp181_6, zp181_17, zp181_18, zp181_19, zp181_20, zp181_21, zp181_22, zp181_23, zp181_24, zp181_31, zp181_32, zx3, zx4, zx5, zx6, zx8, zx9, zx11, zx13, zx14, zx15, zx18, zx19, zx20, zx21, zx23, zx24, zx26, zx28, zx29, zx30, zx32, zx34, zx35, zx36, zx37, zx38, zx39, zx44, zx45, zx47, zx48, zx113, zx114, zx116, zx117, zx179, zx180, zx182, zx183, zx184, zx185, zx186, zx187, zx253, zx254, zx255, zx256, zx257, zx182, zw_0, zw_1, zw_2, zw_3, zw_4, zw_5, zw_6, zw_7, zw_8, zw_9, zw_10, zw_11, zw_12, zw_13, zw_14, zx6_0, zx6_1, zx6_2, zx6_3, zx6_4, zx6_5, zx6_6, zx6_7, zx21_0, zx21_1, zx21_2, zx21_3, zx21_4, zx21_5, zx21_6, zx21_7, zx36_0, zx36_1, zx36_2, zx36_3, zx36_4, zx36_5, zx36_6, zx36_7, zka0, zkb0, zks0, zkt0, zkl0, zkn0, zkg0, zkh0, zke0, zkf0, zka1, zkb1, zks1, zkt1, zkl1, zkn1, zkg1, zkh1, zke1, zkf1, zka2, zkb2, zks2, zkt2, zkl2, zkn2, zkg2, zkh2, zke2, zkf2, zka3, zkb3, zks3, zkt3, zkl3, zkn3, zkg3, zkh3, zke3, zkf3, zka4, zkb4, zks4, zkt4, zkl4, zkn4, zkg4, zkh4, zke4, zkf4, zka5, zkb5, zks5, zkt5, zkl5, zkn5, zkg5, zkh5, zke5, zkf5, zka6, zkb6, zks6, zkt6, zkl6, zkn6, zkg6, zkh6, zke6, zkf6, zka7, zkb7, zks7, zkt7, zkl7, zkn7, zkg7, zkh7, zke7, zkf7, zka8, zkb8, zks8, zkt8, zkl8, zkn8, zkg8, zkh8, zke8, zkf8, zka9, zkb9, zks9, zkt9, zkl9, zkn9, zkg9, zkh9, zke9, zkf9, zka10, zkb10, zks10, zkt10, zkl10, zkn10, zkg10, zkh10, zke10, zkf10, zka11, zkb11, zks11, zkt11, zkl11, zkn11, zkg11, zkh11, zke11, zkf11, zka12, zkb12, zks12, zkt12, zkl12, zkn12, zkg12, zkh12, zke12, zkf12, zka13, zkb13, zks13, zkt13, zkl13, zkn13, zkg13, zkh13, zke13, zkf13, zka14, zkb14, zks14, zkt14, zkl14, zkn14, zkg14, zkh14, zke14, zkf14, zka15, zkb15, zks15, zkt15, zkl15, zkn15, zkg15, zkh15, zke15, zkf15, zka16, zkb16, zks16, zkt16, zkl16, zkn16, zkg16, zkh16, zke16, zkf16, zka19, zkb19, zks19, zkt19, zkl19, zkn19, zkg19, zkh19, zke19, zkf19, zka20, zkb20, zks20, zkt20, zkl20, zkn20, zkg20, zkh20, zke20, zkf20, zka24, zkb24, zks24, zkt24, zkl24, zkn24, zkg24, zkh24, zke24, zkf24, zka27, zkb27, zks27, zkt27, zkl27, zkn27, zkg27, zkh27, zke27, zkf27, zka31, zkb31, zks31, zkt31, zkl31, zkn31, zkg31, zkh31, zke31, zkf31, zka32, zkb32, zks32, zkt32, zkl32, zkn32, zkg32, zkh32, zke32, zkf32, zka40, zkb40, zks40, zkt40, zkl40, zkn40, zkg40, zkh40, zke40, zkf40, zka48, zkb48, zks48, zkt48, zkl48, zkn48, zkg48, zkh48, zke48, zkf48, zka50, zkb50, zks50, zkt50, zkl50, zkn50, zkg50, zkh50, zke50, zkf50, zka60, zkb60, zks60, zkt60, zkl60, zkn60, zkg60, zkh60, zke60, zkf60, zka64, zkb64, zks64, zkt64, zkl64, zkn64, zkg64, zkh64, zke64, zkf64, zka99, zkb99, zks99, zkt99, zkl99, zkn99, zkg99, zkh99, zke99, zkf99, zka100, zkb100, zks100, zkt100, zkl100, zkn100, zkg100, zkh100, zke100, zkf100, zka300, zkb300, zks300, zkt300, zkl300, zkn300, zkg300, zkh300, zke300, zkf300, zka302, zkb302, zks302, zkt302, zkl302, zkn302, zkg302, zkh302, zke302, zkf302, zka320, zkb320, zks320, zkt320, zkl320, zkn320, zkg320, zkh320, zke320, zkf320, zka512, zkb512, zks512, zkt512, zkl512, zkn512, zkg512, zkh512, zke512, zkf512, zka599, zkb599, zks599, zkt599, zkl599, zkn599, zkg599, zkh599, zke599, zkf599, zka600, zkb600, zks600, zkt600, zkl600, zkn600, zkg600, zkh600, zke600, zkf600, zka601, zkb601, zks601, zkt601, zkl601, zkn601, zkg601, zkh601, zke601, zkf601, zka620, zkb620, zks620, zkt620, zkl620, zkn620, zkg620, zkh620, zke620, zkf620, zka920, zkb920, zks920, zkt920, zkl920, zkn920, zkg920, zkh920, zke920, zkf920, zka999, zkb999, zks999, zkt999, zkl999, zkn999, zkg999, zkh999, zke999, zkf999, zka1000, zkb1000, zks1000, zkt1000, zkl1000, zkn1000, zkg1000, zkh1000, zke1000, zkf1000, zka1024, zkb1024, zks1024, zkt1024, zkl1024, zkn1024, zkg1024, zkh1024, zke1024, zkf1024, zka1220, zkb1220, zks1220, zkt1220, zkl1220, zkn1220, zkg1220, zkh1220, zke1220, zkf1220, zka1260, zkb1260, zks1260, zkt1260, zkl1260, zkn1260, zkg1260, zkh1260, zke1260, zkf1260, zka1300, zkb1300, zks1300, zkt1300, zkl1300, zkn1300, zkg1300, zkh1300, zke1300, zkf1300, zka1500, zkb1500, zks1500, zkt1500, zkl1500, zkn1500, zkg1500, zkh1500, zke1500, zkf1500, zka1540, zkb1540, zks1540, zkt1540, zkl1540, zkn1540, zkg1540, zkh1540, zke1540, zkf1540, zka1604, zkb1604, zks1604, zkt1604, zkl1604, zkn1604, zkg1604, zkh1604, zke1604, zkf1604, zka1668, zkb1668, zks1668, zkt1668, zkl1668, zkn1668, zkg1668, zkh1668, zke1668, zkf1668, zka2000, zkb2000, zks2000, zkt2000, zkl2000, zkn2000, zkg2000, zkh2000, zke2000, zkf2000, zka4999, zkb4999, zks4999, zkt4999, zkl4999, zkn4999, zkg4999, zkh4999, zke4999, zkf4999, zka5000, zkb5000, zks5000, zkt5000, zkl5000, zkn5000, zkg5000, zkh5000, zke5000, zkf5000, zkm1, zn_add, zn_add1, zn_sub, zn_sub1, zn_mul, zn_lt, zn_le, zn_eq, zci, zcl, zcr, zcv, zrb0, zrb1, if_pos, if_neg, if_true, if_false, zg_GP_cell_27_e, hv]
      · rintro (q | q)
        · exact h q
        · rw [zi_lt, zn_int (by omega)] at q
          have : (63 : Int32).toInt = 63 := rfl
          omega
    · rw [if_pos ((zkh64 (by omega)).mpr (by omega)), if_pos (Or.inr (by
        rw [zi_lt, zn_int (by omega)]
        have : (63 : Int32).toInt = 63 := rfl
        omega)), zg_GP_cell_25_e, zg_GP_cell_27_e]
      rfl
end ZGC
