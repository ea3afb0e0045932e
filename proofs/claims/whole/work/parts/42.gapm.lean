section ZGM
variable (X : zv_X) {b0 : Bool} {J : zJ} {I : zI} {x : Int32} {G : Nat → Int32}
theorem m_isFull (hg : zMG (I 182) G) {c : Nat} (hc : c < 64) : zg_M_isFull_0 X 181 (Int32.ofNat c) (zM b0 I J) = some (some (.int (if G c = zN then 0 else 1)), zM b0 I J) := by
  obtain ⟨h1, h2⟩ := hg c hc
  simp (disch := omega) only [zg_M_isFull_0_e, zg_M_isFull_18_e, zg_M_isFull_19_e, zM_I, zM_J, zM_P, zM_wI, zM_wL, zrf, zo0, zo1, zo2, zo7, zo10, zo12, zo16, zo17, zo22, zo25, zo27, zo31, zo33, zo40, zo42, zo43, zo46, zo109, zo111, zo112, zo115, zo178, zo181, zp0_0, zp0_1, zp0_3, zp0_4, zp0_5, zp0_6, zp0_7, zp1_0, zp1_1, zp1_3, zp1_5, zp1_6, zp1_7, zp2_0, zp2_1, zp7_0, zp7_1, zp10_0, zp12_0, zp12_1, zp12_3, zp16_0, zp16_1, zp16_3, zp16_5, zp16_6, zp16_7, zp17_0, zp17_1, zp22_0, zp22_1, zp25_0, zp27_0, zp27_1, zp27_3, zp31_0, zp31_2, zp31_3, zp31_6, zp31_7, zp31_8, zp33_0, zp33_1, zp40_0, zp40_1, zp42_0, zp42_1, zp43_0, zp43_1, zp46_0, zp46_1, zp109_0, zp109_1, zp111_0, zp111_1, zp112_0, zp112_1, zp115_0, zp115_1, zp178_0, zp181_0, zp181_1, zp181_2, zp181_4, zp181_5, zp181_6, zp181_17, zp181_18, zp181_19, zp181_20, zp181_21, zp181_22, zp181_23, zp181_24, zp181_31, zp181_32, zx3, zx4, zx5, zx6, zx8, zx9, zx11, zx13, zx14, zx15, zx18, zx19, zx20, zx21, zx23, zx24, zx26, zx28, zx29, zx30, zx32, zx34, zx35, zx36, zx37, zx38, zx39, zx44, zx45, zx47, zx48, zx113, zx114, zx116, zx117, zx179, zx180, zx182, zx183, zx184, zx185, zx186, zx187, zx253, zx254, zx255, zx256, zx257, zx182, zw_0, zw_1, zw_2, zw_3, zw_4, zw_5, zw_6, zw_7, zw_8, zw_9, zw_10, zw_11, zw_12, zw_13, zw_14, zx6_0, zx6_1, zx6_2, zx6_3, zx6_4, zx6_5, zx6_6, zx6_7, zx21_0, zx21_1, zx21_2, zx21_3, zx21_4, zx21_5, zx21_6, zx21_7, zx36_0, zx36_1, zx36_2, zx36_3, zx36_4, zx36_5, zx36_6, zx36_7, zka0, zkb0, zks0, zkt0, zkl0, zkn0, zkg0, zkh0, zke0, zkf0, zka1, zkb1, zks1, zkt1, zkl1, zkn1, zkg1, zkh1, zke1, zkf1, zka2, zkb2, zks2, zkt2, zkl2, zkn2, zkg2, zkh2, zke2, zkf2, zka3, zkb3, zks3, zkt3, zkl3, zkn3, zkg3, zkh3, zke3, zkf3, zka4, zkb4, zks4, zkt4, zkl4, zkn4, zkg4, zkh4, zke4, zkf4, zka5, zkb5, zks5, zkt5, zkl5, zkn5, zkg5, zkh5, zke5, zkf5, zka6, zkb6, zks6, zkt6, zkl6, zkn6, zkg6, zkh6, zke6, zkf6, zka7, zkb7, zks7, zkt7, zkl7, zkn7, zkg7, zkh7, zke7, zkf7, zka8, zkb8, zks8, zkt8, zkl8, zkn8, zkg8, zkh8, zke8, zkf8, zka9, zkb9, zks9, zkt9, zkl9, zkn9, zkg9, zkh9, zke9, zkf9, zka10, zkb10, zks10, zkt10, zkl10, zkn10, zkg10, zkh10, zke10, zkf10, zka11, zkb11, zks11, zkt11, zkl11, zkn11, zkg11, zkh11, zke11, zkf11, zka12, zkb12, zks12, zkt12, zkl12, zkn12, zkg12, zkh12, zke12, zkf12, zka13, zkb13, zks13, zkt13, zkl13, zkn13, zkg13, zkh13, zke13, zkf13, zka14, zkb14, zks14, zkt14, zkl14, zkn14, zkg14, zkh14, zke14, zkf14, zka15, zkb15, zks15, zkt15, zkl15, zkn15, zkg15, zkh15, zke15, zkf15, zka16, zkb16, zks16, zkt16, zkl16, zkn16, zkg16, zkh16, zke16, zkf16, zka19, zkb19, zks19, zkt19, zkl19, zkn19, zkg19, zkh19, zke19, zkf19, zka20, zkb20, zks20, zkt20, zkl20, zkn20, zkg20, zkh20, zke20, zkf20, zka24, zkb24, zks24, zkt24, zkl24, zkn24, zkg24, zkh24, zke24, zkf24, zka27, zkb27, zks27, zkt27, zkl27, zkn27, zkg27, zkh27, zke27, zkf27, zka31, zkb31, zks31, zkt31, zkl31, zkn31, zkg31, zkh31, zke31, zkf31, zka32, zkb32, zks32, zkt32, zkl32, zkn32, zkg32, zkh32, zke32, zkf32, zka40, zkb40, zks40, zkt40, zkl40, zkn40, zkg40, zkh40, zke40, zkf40, zka48, zkb48, zks48, zkt48, zkl48, zkn48, zkg48, zkh48, zke48, zkf48, zka50, zkb50, zks50, zkt50, zkl50, zkn50, zkg50, zkh50, zke50, zkf50, zka60, zkb60, zks60, zkt60, zkl60, zkn60, zkg60, zkh60, zke60, zkf60, zka64, zkb64, zks64, zkt64, zkl64, zkn64, zkg64, zkh64, zke64, zkf64, zka99, zkb99, zks99, zkt99, zkl99, zkn99, zkg99, zkh99, zke99, zkf99, zka100, zkb100, zks100, zkt100, zkl100, zkn100, zkg100, zkh100, zke100, zkf100, zka300, zkb300, zks300, zkt300, zkl300, zkn300, zkg300, zkh300, zke300, zkf300, zka302, zkb302, zks302, zkt302, zkl302, zkn302, zkg302, zkh302, zke302, zkf302, zka320, zkb320, zks320, zkt320, zkl320, zkn320, zkg320, zkh320, zke320, zkf320, zka512, zkb512, zks512, zkt512, zkl512, zkn512, zkg512, zkh512, zke512, zkf512, zka599, zkb599, zks599, zkt599, zkl599, zkn599, zkg599, zkh599, zke599, zkf599, zka600, zkb600, zks600, zkt600, zkl600, zkn600, zkg600, zkh600, zke600, zkf600, zka601, zkb601, zks601, zkt601, zkl601, zkn601, zkg601, zkh601, zke601, zkf601, zka620, zkb620, zks620, zkt620, zkl620, zkn620, zkg620, zkh620, zke620, zkf620, zka920, zkb920, zks920, zkt920, zkl920, zkn920, zkg920, zkh920, zke920, zkf920, zka999, zkb999, zks999, zkt999, zkl999, zkn999, zkg999, zkh999, zke999, zkf999, zka1000, zkb1000, zks1000, zkt1000, zkl1000, zkn1000, zkg1000, zkh1000, zke1000, zkf1000, zka1024, zkb1024, zks1024, zkt1024, zkl1024, zkn1024, zkg1024, zkh1024, zke1024, zkf1024, zka1220, zkb1220, zks1220, zkt1220, zkl1220, zkn1220, zkg1220, zkh1220, zke1220, zkf1220, zka1260, zkb1260, zks1260, zkt1260, zkl1260, zkn1260, zkg1260, zkh1260, zke1260, zkf1260, zka1300, zkb1300, zks1300, zkt1300, zkl1300, zkn1300, zkg1300, zkh1300, zke1300, zkf1300, zka1500, zkb1500, zks1500, zkt1500, zkl1500, zkn1500, zkg1500, zkh1500, zke1500, zkf1500, zka1540, zkb1540, zks1540, zkt1540, zkl1540, zkn1540, zkg1540, zkh1540, zke1540, zkf1540, zka1604, zkb1604, zks1604, zkt1604, zkl1604, zkn1604, zkg1604, zkh1604, zke1604, zkf1604, zka1668, zkb1668, zks1668, zkt1668, zkl1668, zkn1668, zkg1668, zkh1668, zke1668, zkf1668, zka2000, zkb2000, zks2000, zkt2000, zkl2000, zkn2000, zkg2000, zkh2000, zke2000, zkf2000, zka4999, zkb4999, zks4999, zkt4999, zkl4999, zkn4999, zkg4999, zkh4999, zke4999, zkf4999, zka5000, zkb5000, zks5000, zkt5000, zkl5000, zkn5000, zkg5000, zkh5000, zke5000, zkf5000, zkm1, zn_add, zn_add1, zn_sub, zn_sub1, zn_mul, zn_lt, zn_le, zn_eq, zci, zcl, zcr, zcv, zrb0, zrb1, if_pos, if_neg, if_true, if_false]
  by_cases h : G c = zN
  · rw [h1 h, if_pos h, if_neg (by decide)]
  · rw [(h2 h).1, if_neg h, if_pos rfl]
theorem m_fills (hg : zMG (I 182) G) {c : Nat} (hc : c < 64) (hx : x ≠ zN) : ∃ I', zg_M_fills_0 X 181 (Int32.ofNat c) x (zM b0 I J) = some (none, zM b0 I' J) ∧ zMG (I' 182) (zgu G c x) ∧ (∀ a, a ≠ 182 → I' a = I a) ∧ ∀ i, i < 1540 → I' 182 i = I 182 i := by
  refine ⟨zst (zst I 182 (1540 + c) x) 182 (1604 + c) 1, ?_, fun d hd => ?_, fun a ha => by rw [zst_ne ha, zst_ne ha], fun i hi => by rw [zst_off (by omega), zst_off (by omega)]⟩
  · simp (disch := omega) only [zg_M_fills_0_e, zM_I, zM_J, zM_P, zM_wI, zM_wL, zrf, zo0, zo1, zo2, zo7, zo10, zo12, zo16, zo17, zo22, zo25, zo27, zo31, zo33, zo40, zo42, zo43, zo46, zo109, zo111, zo112, zo115, zo178, zo181, zp0_0, zp0_1, zp0_3, zp0_4, zp0_5, zp0_6, zp0_7, zp1_0, zp1_1, zp1_3, zp1_5, zp1_6, zp1_7, zp2_0, zp2_1, zp7_0, zp7_1, zp10_0, zp12_0, zp12_1, zp12_3, zp16_0, zp16_1, zp16_3, zp16_5, zp16_6, zp16_7, zp17_0, zp17_1, zp22_0, zp22_1, zp25_0, zp27_0, zp27_1, zp27_3, zp31_0, zp31_2, zp31_3, zp31_6, zp31_7, zp31_8, zp33_0, zp33_1, zp40_0, zp40_1, zp42_0, zp42_1, zp43_0, zp43_1, zp46_0, zp46_1, zp109_0, zp109_1, zp111_0, zp111_1, zp112_0, zp112_1, zp115_0, zp115_1, zp178_0, zp181_0, zp181_1, zp181_2, zp181_4, zp181_5, zp181_6, zp181_17, zp181_18, zp181_19, zp181_20, zp181_21, zp181_22, zp181_23, zp181_24, zp181_31, zp181_32, zx3, zx4, zx5, zx6, zx8, zx9, zx11, zx13, zx14, zx15, zx18, zx19, zx20, zx21, zx23, zx24, zx26, zx28, zx29, zx30, zx32, zx34, zx35, zx36, zx37, zx38, zx39, zx44, zx45, zx47, zx48, zx113, zx114, zx116, zx117, zx179, zx180, zx182, zx183, zx184, zx185, zx186, zx187, zx253, zx254, zx255, zx256, zx257, zx182, zw_0, zw_1, zw_2, zw_3, zw_4, zw_5, zw_6, zw_7, zw_8, zw_9, zw_10, zw_11, zw_12, zw_13, zw_14, zx6_0, zx6_1, zx6_2, zx6_3, zx6_4, zx6_5, zx6_6, zx6_7, zx21_0, zx21_1, zx21_2, zx21_3, zx21_4, zx21_5, zx21_6, zx21_7, zx36_0, zx36_1, zx36_2, zx36_3, zx36_4, zx36_5, zx36_6, zx36_7, zka0, zkb0, zks0, zkt0, zkl0, zkn0, zkg0, zkh0, zke0, zkf0, zka1, zkb1, zks1, zkt1, zkl1, zkn1, zkg1, zkh1, zke1, zkf1, zka2, zkb2, zks2, zkt2, zkl2, zkn2, zkg2, zkh2, zke2, zkf2, zka3, zkb3, zks3, zkt3, zkl3, zkn3, zkg3, zkh3, zke3, zkf3, zka4, zkb4, zks4, zkt4, zkl4, zkn4, zkg4, zkh4, zke4, zkf4, zka5, zkb5, zks5, zkt5, zkl5, zkn5, zkg5, zkh5, zke5, zkf5, zka6, zkb6, zks6, zkt6, zkl6, zkn6, zkg6, zkh6, zke6, zkf6, zka7, zkb7, zks7, zkt7, zkl7, zkn7, zkg7, zkh7, zke7, zkf7, zka8, zkb8, zks8, zkt8, zkl8, zkn8, zkg8, zkh8, zke8, zkf8, zka9, zkb9, zks9, zkt9, zkl9, zkn9, zkg9, zkh9, zke9, zkf9, zka10, zkb10, zks10, zkt10, zkl10, zkn10, zkg10, zkh10, zke10, zkf10, zka11, zkb11, zks11, zkt11, zkl11, zkn11, zkg11, zkh11, zke11, zkf11, zka12, zkb12, zks12, zkt12, zkl12, zkn12, zkg12, zkh12, zke12, zkf12, zka13, zkb13, zks13, zkt13, zkl13, zkn13, zkg13, zkh13, zke13, zkf13, zka14, zkb14, zks14, zkt14, zkl14, zkn14, zkg14, zkh14, zke14, zkf14, zka15, zkb15, zks15, zkt15, zkl15, zkn15, zkg15, zkh15, zke15, zkf15, zka16, zkb16, zks16, zkt16, zkl16, zkn16, zkg16, zkh16, zke16, zkf16, zka19, zkb19, zks19, zkt19, zkl19, zkn19, zkg19, zkh19, zke19, zkf19, zka20, zkb20, zks20, zkt20, zkl20, zkn20, zkg20, zkh20, zke20, zkf20, zka24, zkb24, zks24, zkt24, zkl24, zkn24, zkg24, zkh24, zke24, zkf24, zka27, zkb27, zks27, zkt27, zkl27, zkn27, zkg27, zkh27, zke27, zkf27, zka31, zkb31, zks31, zkt31, zkl31, zkn31, zkg31, zkh31, zke31, zkf31, zka32, zkb32, zks32, zkt32, zkl32, zkn32, zkg32, zkh32, zke32, zkf32, zka40, zkb40, zks40, zkt40, zkl40, zkn40, zkg40, zkh40, zke40, zkf40, zka48, zkb48, zks48, zkt48, zkl48, zkn48, zkg48, zkh48, zke48, zkf48, zka50, zkb50, zks50, zkt50, zkl50, zkn50, zkg50, zkh50, zke50, zkf50, zka60, zkb60, zks60, zkt60, zkl60, zkn60, zkg60, zkh60, zke60, zkf60, zka64, zkb64, zks64, zkt64, zkl64, zkn64, zkg64, zkh64, zke64, zkf64, zka99, zkb99, zks99, zkt99, zkl99, zkn99, zkg99, zkh99, zke99, zkf99, zka100, zkb100, zks100, zkt100, zkl100, zkn100, zkg100, zkh100, zke100, zkf100, zka300, zkb300, zks300, zkt300, zkl300, zkn300, zkg300, zkh300, zke300, zkf300, zka302, zkb302, zks302, zkt302, zkl302, zkn302, zkg302, zkh302, zke302, zkf302, zka320, zkb320, zks320, zkt320, zkl320, zkn320, zkg320, zkh320, zke320, zkf320, zka512, zkb512, zks512, zkt512, zkl512, zkn512, zkg512, zkh512, zke512, zkf512, zka599, zkb599, zks599, zkt599, zkl599, zkn599, zkg599, zkh599, zke599, zkf599, zka600, zkb600, zks600, zkt600, zkl600, zkn600, zkg600, zkh600, zke600, zkf600, zka601, zkb601, zks601, zkt601, zkl601, zkn601, zkg601, zkh601, zke601, zkf601, zka620, zkb620, zks620, zkt620, zkl620, zkn620, zkg620, zkh620, zke620, zkf620, zka920, zkb920, zks920, zkt920, zkl920, zkn920, zkg920, zkh920, zke920, zkf920, zka999, zkb999, zks999, zkt999, zkl999, zkn999, zkg999, zkh999, zke999, zkf999, zka1000, zkb1000, zks1000, zkt1000, zkl1000, zkn1000, zkg1000, zkh1000, zke1000, zkf1000, zka1024, zkb1024, zks1024, zkt1024, zkl1024, zkn1024, zkg1024, zkh1024, zke1024, zkf1024, zka1220, zkb1220, zks1220, zkt1220, zkl1220, zkn1220, zkg1220, zkh1220, zke1220, zkf1220, zka1260, zkb1260, zks1260, zkt1260, zkl1260, zkn1260, zkg1260, zkh1260, zke1260, zkf1260, zka1300, zkb1300, zks1300, zkt1300, zkl1300, zkn1300, zkg1300, zkh1300, zke1300, zkf1300, zka1500, zkb1500, zks1500, zkt1500, zkl1500, zkn1500, zkg1500, zkh1500, zke1500, zkf1500, zka1540, zkb1540, zks1540, zkt1540, zkl1540, zkn1540, zkg1540, zkh1540, zke1540, zkf1540, zka1604, zkb1604, zks1604, zkt1604, zkl1604, zkn1604, zkg1604, zkh1604, zke1604, zkf1604, zka1668, zkb1668, zks1668, zkt1668, zkl1668, zkn1668, zkg1668, zkh1668, zke1668, zkf1668, zka2000, zkb2000, zks2000, zkt2000, zkl2000, zkn2000, zkg2000, zkh2000, zke2000, zkf2000, zka4999, zkb4999, zks4999, zkt4999, zkl4999, zkn4999, zkg4999, zkh4999, zke4999, zkf4999, zka5000, zkb5000, zks5000, zkt5000, zkl5000, zkn5000, zkg5000, zkh5000, zke5000, zkf5000, zkm1, zn_add, zn_add1, zn_sub, zn_sub1, zn_mul, zn_lt, zn_le, zn_eq, zci, zcl, zcr, zcv, zrb0, zrb1, if_pos, if_neg, if_true, if_false]
  · unfold zgu
    by_cases e : d = c
    · subst e
      rw [if_pos rfl, zst_self]
      refine ⟨fun q => absurd q hx, fun _ => ⟨rfl, ?_⟩⟩
      rw [zst_off (by omega), zst_self]
    · rw [if_neg e, zst_off (by omega), zst_off (by omega), zst_off (by omega), zst_off (by omega)]
      exact hg d hd
theorem m_cell (hg : zMG (I 182) G) (i : Int32) : zg_M_cell_0 X 181 i (zM b0 I J) = some (some (.int (if i < 0 ∨ 63 < i then zN else G i.toInt.toNat)), zM b0 I J) := by
  simp only [zg_M_cell_0_e, zg_M_cell_31_e, zg_M_cell_33_e, m_isIn, zci]
  by_cases h : i < 0 ∨ 63 < i
  · rw [if_pos h, if_pos rfl, if_pos h]; rfl
  · rw [if_neg h, if_neg (by decide), if_neg h]
    obtain ⟨k, hk, rfl, ek⟩ := zidx (i := i) (fun q => h (Or.inl q))
    have hk : k < 64 := by
      rcases Nat.lt_or_ge k 64 with c | c
      · exact c
      · exact absurd (Or.inr ((zn_lt (by decide) hk).mpr c)) h
    rw [ek]
    simp only [zo181, m_isFull X hg hk, zci]
    by_cases hc : G k = zN
    · rw [if_pos hc, if_pos rfl, hc]; rfl
    · rw [if_neg hc, if_neg (by decide)]
      simp (disch := omega) only [zM_I, zM_J, zM_P, zM_wI, zM_wL, zrf, zo0, zo1, zo2, zo7, zo10, zo12, zo16, zo17, zo22, zo25, zo27, zo31, zo33, zo40, zo42, zo43, zo46, zo109, zo111, zo112, zo115, zo178, zo181, zp0_0, zp0_1, zp0_3, zp0_4, zp0_5, zp0_6, zp0_7, zp1_0, zp1_1, zp1_3, zp1_5, zp1_6, zp1_7, zp2_0, zp2_1, zp7_0, zp7_1, zp10_0, zp12_0, zp12_1, zp12_3, zp16_0, zp16_1, zp16_3, zp16_5, zp16_6, zp16_7, zp17_0, zp17_1, zp22_0, zp22_1, zp25_0, zp27_0, zp27_1, zp27_3, zp31_0, zp31_2, zp31_3, zp31_6, zp31_7, zp31_8, zp33_0, zp33_1, zp40_0, zp40_1, zp42_0, zp42_1, zp43_0, zp43_1, zp46_0, zp46_1, zp109_0, zp109_1, zp111_0, zp111_1, zp112_0, zp112_1, zp115_0, zp115_1, zp178_0, zp181_0, zp181_1, zp181_2, zp181_4, zp181_5, zp181_6, zp181_17, zp181_18, zp181_19, zp181_20, zp181_21, zp181_22, zp181_23, zp181_24, zp181_31, zp181_32, zx3, zx4, zx5, zx6, zx8, zx9, zx11, zx13, zx14, zx15, zx18, zx19, zx20, zx21, zx23, zx24, zx26, zx28, zx29, zx30, zx32, zx34, zx35, zx36, zx37, zx38, zx39, zx44, zx45, zx47, zx48, zx113, zx114, zx116, zx117, zx179, zx180, zx182, zx183, zx184, zx185, zx186, zx187, zx253, zx254, zx255, zx256, zx257, zx182, zw_0, zw_1, zw_2, zw_3, zw_4, zw_5, zw_6, zw_7, zw_8, zw_9, zw_10, zw_11, zw_12, zw_13, zw_14, zx6_0, zx6_1, zx6_2, zx6_3, zx6_4, zx6_5, zx6_6, zx6_7, zx21_0, zx21_1, zx21_2, zx21_3, zx21_4, zx21_5, zx21_6, zx21_7, zx36_0, zx36_1, zx36_2, zx36_3, zx36_4, zx36_5, zx36_6, zx36_7, zka0, zkb0, zks0, zkt0, zkl0, zkn0, zkg0, zkh0, zke0, zkf0, zka1, zkb1, zks1, zkt1, zkl1, zkn1, zkg1, zkh1, zke1, zkf1, zka2, zkb2, zks2, zkt2, zkl2, zkn2, zkg2, zkh2, zke2, zkf2, zka3, zkb3, zks3, zkt3, zkl3, zkn3, zkg3, zkh3, zke3, zkf3, zka4, zkb4, zks4, zkt4, zkl4, zkn4, zkg4, zkh4, zke4, zkf4, zka5, zkb5, zks5, zkt5, zkl5, zkn5, zkg5, zkh5, zke5, zkf5, zka6, zkb6, zks6, zkt6, zkl6, zkn6, zkg6, zkh6, zke6, zkf6, zka7, zkb7, zks7, zkt7, zkl7, zkn7, zkg7, zkh7, zke7, zkf7, zka8, zkb8, zks8, zkt8, zkl8, zkn8, zkg8, zkh8, zke8, zkf8, zka9, zkb9, zks9, zkt9, zkl9, zkn9, zkg9, zkh9, zke9, zkf9, zka10, zkb10, zks10, zkt10, zkl10, zkn10, zkg10, zkh10, zke10, zkf10, zka11, zkb11, zks11, zkt11, zkl11, zkn11, zkg11, zkh11, zke11, zkf11, zka12, zkb12, zks12, zkt12, zkl12, zkn12, zkg12, zkh12, zke12, zkf12, zka13, zkb13, zks13, zkt13, zkl13, zkn13, zkg13, zkh13, zke13, zkf13, zka14, zkb14, zks14, zkt14, zkl14, zkn14, zkg14, zkh14, zke14, zkf14, zka15, zkb15, zks15, zkt15, zkl15, zkn15, zkg15, zkh15, zke15, zkf15, zka16, zkb16, zks16, zkt16, zkl16, zkn16, zkg16, zkh16, zke16, zkf16, zka19, zkb19, zks19, zkt19, zkl19, zkn19, zkg19, zkh19, zke19, zkf19, zka20, zkb20, zks20, zkt20, zkl20, zkn20, zkg20, zkh20, zke20, zkf20, zka24, zkb24, zks24, zkt24, zkl24, zkn24, zkg24, zkh24, zke24, zkf24, zka27, zkb27, zks27, zkt27, zkl27, zkn27, zkg27, zkh27, zke27, zkf27, zka31, zkb31, zks31, zkt31, zkl31, zkn31, zkg31, zkh31, zke31, zkf31, zka32, zkb32, zks32, zkt32, zkl32, zkn32, zkg32, zkh32, zke32, zkf32, zka40, zkb40, zks40, zkt40, zkl40, zkn40, zkg40, zkh40, zke40, zkf40, zka48, zkb48, zks48, zkt48, zkl48, zkn48, zkg48, zkh48, zke48, zkf48, zka50, zkb50, zks50, zkt50, zkl50, zkn50, zkg50, zkh50, zke50, zkf50, zka60, zkb60, zks60, zkt60, zkl60, zkn60, zkg60, zkh60, zke60, zkf60, zka64, zkb64, zks64, zkt64, zkl64, zkn64, zkg64, zkh64, zke64, zkf64, zka99, zkb99, zks99, zkt99, zkl99, zkn99, zkg99, zkh99, zke99, zkf99, zka100, zkb100, zks100, zkt100, zkl100, zkn100, zkg100, zkh100, zke100, zkf100, zka300, zkb300, zks300, zkt300, zkl300, zkn300, zkg300, zkh300, zke300, zkf300, zka302, zkb302, zks302, zkt302, zkl302, zkn302, zkg302, zkh302, zke302, zkf302, zka320, zkb320, zks320, zkt320, zkl320, zkn320, zkg320, zkh320, zke320, zkf320, zka512, zkb512, zks512, zkt512, zkl512, zkn512, zkg512, zkh512, zke512, zkf512, zka599, zkb599, zks599, zkt599, zkl599, zkn599, zkg599, zkh599, zke599, zkf599, zka600, zkb600, zks600, zkt600, zkl600, zkn600, zkg600, zkh600, zke600, zkf600, zka601, zkb601, zks601, zkt601, zkl601, zkn601, zkg601, zkh601, zke601, zkf601, zka620, zkb620, zks620, zkt620, zkl620, zkn620, zkg620, zkh620, zke620, zkf620, zka920, zkb920, zks920, zkt920, zkl920, zkn920, zkg920, zkh920, zke920, zkf920, zka999, zkb999, zks999, zkt999, zkl999, zkn999, zkg999, zkh999, zke999, zkf999, zka1000, zkb1000, zks1000, zkt1000, zkl1000, zkn1000, zkg1000, zkh1000, zke1000, zkf1000, zka1024, zkb1024, zks1024, zkt1024, zkl1024, zkn1024, zkg1024, zkh1024, zke1024, zkf1024, zka1220, zkb1220, zks1220, zkt1220, zkl1220, zkn1220, zkg1220, zkh1220, zke1220, zkf1220, zka1260, zkb1260, zks1260, zkt1260, zkl1260, zkn1260, zkg1260, zkh1260, zke1260, zkf1260, zka1300, zkb1300, zks1300, zkt1300, zkl1300, zkn1300, zkg1300, zkh1300, zke1300, zkf1300, zka1500, zkb1500, zks1500, zkt1500, zkl1500, zkn1500, zkg1500, zkh1500, zke1500, zkf1500, zka1540, zkb1540, zks1540, zkt1540, zkl1540, zkn1540, zkg1540, zkh1540, zke1540, zkf1540, zka1604, zkb1604, zks1604, zkt1604, zkl1604, zkn1604, zkg1604, zkh1604, zke1604, zkf1604, zka1668, zkb1668, zks1668, zkt1668, zkl1668, zkn1668, zkg1668, zkh1668, zke1668, zkf1668, zka2000, zkb2000, zks2000, zkt2000, zkl2000, zkn2000, zkg2000, zkh2000, zke2000, zkf2000, zka4999, zkb4999, zks4999, zkt4999, zkl4999, zkn4999, zkg4999, zkh4999, zke4999, zkf4999, zka5000, zkb5000, zks5000, zkt5000, zkl5000, zkn5000, zkg5000, zkh5000, zke5000, zkf5000, zkm1, zn_add, zn_add1, zn_sub, zn_sub1, zn_mul, zn_lt, zn_le, zn_eq, zci, zcl, zcr, zcv, zrb0, zrb1, if_pos, if_neg, if_true, if_false]
      rw [((hg k hk).2 hc).2]
theorem m_lay20 : ∀ (m k : Nat) (I : zI), k + m = 64 → ∃ I', ∀ l1, zg_M_lay_20 X 181 l1 (Int32.ofNat k) (zM b0 I J) = zg_M_lay_45 X 181 l1 0 (zM b0 I' J) ∧ (∀ c, c ≠ 182 → I' c = I c) ∧ ∀ i, I' 182 i = if 1604 + k ≤ i ∧ i < 1668 then 0 else I 182 i := by
  intro m
  induction m with
  | zero =>
    intro k I hk
    refine ⟨I, fun l1 => ⟨?_, fun c _ => rfl, fun i => by rw [if_neg (by omega)]⟩⟩
    rw [zg_M_lay_20_e, if_pos ((zkh64 (by omega)).mpr (by omega)), zg_M_lay_43_e]
  | succ m ih =>
    intro k I hk
    obtain ⟨I', e⟩ := ih (k + 1) (zst I 182 (1604 + k) 0) (by omega)
    refine ⟨I', fun l1 => ⟨?_, fun c hc => by rw [(e l1).2.1 c hc, zst_ne hc], fun i => ?_⟩⟩
    · rw [zg_M_lay_20_e, if_neg (fun q => absurd ((zkh64 (by omega)).mp q) (by omega))]
      simp (disch := omega) only [zM_I, zM_J, zM_P, zM_wI, zM_wL, zrf, zo0, zo1, zo2, zo7, zo10, zo12, zo16, zo17, zo22, zo25, zo27, zo31, zo33, zo40, zo42, zo43, zo46, zo109, zo111, zo112, zo115, zo178, zo181, zp0_0, zp0_1, zp0_3, zp0_4, zp0_5, zp0_6, zp0_7, zp1_0, zp1_1, zp1_3, zp1_5, zp1_6, zp1_7, zp2_0, zp2_1, zp7_0, zp7_1, zp10_0, zp12_0, zp12_1, zp12_3, zp16_0, zp16_1, zp16_3, zp16_5, zp16_6, zp16_7, zp17_0, zp17_1, zp22_0, zp22_1, zp25_0, zp27_0, zp27_1, zp27_3, zp31_0, zp31_2, zp31_3, zp31_6, zp31_7, zp31_8, zp33_0, zp33_1, zp40_0, zp40_1, zp42_0, zp42_1, zp43_0, zp43_1, zp46_0, zp46_1, zp109_0, zp109_1, zp111_0, zp111_1, zp112_0, zp112_1, zp115_0, zp115_1, zp178_0, zp181_0, zp181_1, zp181_2, zp181_4, zp181_5, zp181_6, zp181_17, zp181_18, zp181_19, zp181_20, zp181_21, zp181_22, zp181_23, zp181_24, zp181_31, zp181_32, zx3, zx4, zx5, zx6, zx8, zx9, zx11, zx13, zx14, zx15, zx18, zx19, zx20, zx21, zx23, zx24, zx26, zx28, zx29, zx30, zx32, zx34, zx35, zx36, zx37, zx38, zx39, zx44, zx45, zx47, zx48, zx113, zx114, zx116, zx117, zx179, zx180, zx182, zx183, zx184, zx185, zx186, zx187, zx253, zx254, zx255, zx256, zx257, zx182, zw_0, zw_1, zw_2, zw_3, zw_4, zw_5, zw_6, zw_7, zw_8, zw_9, zw_10, zw_11, zw_12, zw_13, zw_14, zx6_0, zx6_1, zx6_2, zx6_3, zx6_4, zx6_5, zx6_6, zx6_7, zx21_0, zx21_1, zx21_2, zx21_3, zx21_4, zx21_5, zx21_6, zx21_7, zx36_0, zx36_1, zx36_2, zx36_3, zx36_4, zx36_5, zx36_6, zx36_7, zka0, zkb0, zks0, zkt0, zkl0, zkn0, zkg0, zkh0, zke0, zkf0, zka1, zkb1, zks1, zkt1, zkl1, zkn1, zkg1, zkh1, zke1, zkf1, zka2, zkb2, zks2, zkt2, zkl2, zkn2, zkg2, zkh2, zke2, zkf2, zka3, zkb3, zks3, zkt3, zkl3, zkn3, zkg3, zkh3, zke3, zkf3, zka4, zkb4, zks4, zkt4, zkl4, zkn4, zkg4, zkh4, zke4, zkf4, zka5, zkb5, zks5, zkt5, zkl5, zkn5, zkg5, zkh5, zke5, zkf5, zka6, zkb6, zks6, zkt6, zkl6, zkn6, zkg6, zkh6, zke6, zkf6, zka7, zkb7, zks7, zkt7, zkl7, zkn7, zkg7, zkh7, zke7, zkf7, zka8, zkb8, zks8, zkt8, zkl8, zkn8, zkg8, zkh8, zke8, zkf8, zka9, zkb9, zks9, zkt9, zkl9, zkn9, zkg9, zkh9, zke9, zkf9, zka10, zkb10, zks10, zkt10, zkl10, zkn10, zkg10, zkh10, zke10, zkf10, zka11, zkb11, zks11, zkt11, zkl11, zkn11, zkg11, zkh11, zke11, zkf11, zka12, zkb12, zks12, zkt12, zkl12, zkn12, zkg12, zkh12, zke12, zkf12, zka13, zkb13, zks13, zkt13, zkl13, zkn13, zkg13, zkh13, zke13, zkf13, zka14, zkb14, zks14, zkt14, zkl14, zkn14, zkg14, zkh14, zke14, zkf14, zka15, zkb15, zks15, zkt15, zkl15, zkn15, zkg15, zkh15, zke15, zkf15, zka16, zkb16, zks16, zkt16, zkl16, zkn16, zkg16, zkh16, zke16, zkf16, zka19, zkb19, zks19, zkt19, zkl19, zkn19, zkg19, zkh19, zke19, zkf19, zka20, zkb20, zks20, zkt20, zkl20, zkn20, zkg20, zkh20, zke20, zkf20, zka24, zkb24, zks24, zkt24, zkl24, zkn24, zkg24, zkh24, zke24, zkf24, zka27, zkb27, zks27, zkt27, zkl27, zkn27, zkg27, zkh27, zke27, zkf27, zka31, zkb31, zks31, zkt31, zkl31, zkn31, zkg31, zkh31, zke31, zkf31, zka32, zkb32, zks32, zkt32, zkl32, zkn32, zkg32, zkh32, zke32, zkf32, zka40, zkb40, zks40, zkt40, zkl40, zkn40, zkg40, zkh40, zke40, zkf40, zka48, zkb48, zks48, zkt48, zkl48, zkn48, zkg48, zkh48, zke48, zkf48, zka50, zkb50, zks50, zkt50, zkl50, zkn50, zkg50, zkh50, zke50, zkf50, zka60, zkb60, zks60, zkt60, zkl60, zkn60, zkg60, zkh60, zke60, zkf60, zka64, zkb64, zks64, zkt64, zkl64, zkn64, zkg64, zkh64, zke64, zkf64, zka99, zkb99, zks99, zkt99, zkl99, zkn99, zkg99, zkh99, zke99, zkf99, zka100, zkb100, zks100, zkt100, zkl100, zkn100, zkg100, zkh100, zke100, zkf100, zka300, zkb300, zks300, zkt300, zkl300, zkn300, zkg300, zkh300, zke300, zkf300, zka302, zkb302, zks302, zkt302, zkl302, zkn302, zkg302, zkh302, zke302, zkf302, zka320, zkb320, zks320, zkt320, zkl320, zkn320, zkg320, zkh320, zke320, zkf320, zka512, zkb512, zks512, zkt512, zkl512, zkn512, zkg512, zkh512, zke512, zkf512, zka599, zkb599, zks599, zkt599, zkl599, zkn599, zkg599, zkh599, zke599, zkf599, zka600, zkb600, zks600, zkt600, zkl600, zkn600, zkg600, zkh600, zke600, zkf600, zka601, zkb601, zks601, zkt601, zkl601, zkn601, zkg601, zkh601, zke601, zkf601, zka620, zkb620, zks620, zkt620, zkl620, zkn620, zkg620, zkh620, zke620, zkf620, zka920, zkb920, zks920, zkt920, zkl920, zkn920, zkg920, zkh920, zke920, zkf920, zka999, zkb999, zks999, zkt999, zkl999, zkn999, zkg999, zkh999, zke999, zkf999, zka1000, zkb1000, zks1000, zkt1000, zkl1000, zkn1000, zkg1000, zkh1000, zke1000, zkf1000, zka1024, zkb1024, zks1024, zkt1024, zkl1024, zkn1024, zkg1024, zkh1024, zke1024, zkf1024, zka1220, zkb1220, zks1220, zkt1220, zkl1220, zkn1220, zkg1220, zkh1220, zke1220, zkf1220, zka1260, zkb1260, zks1260, zkt1260, zkl1260, zkn1260, zkg1260, zkh1260, zke1260, zkf1260, zka1300, zkb1300, zks1300, zkt1300, zkl1300, zkn1300, zkg1300, zkh1300, zke1300, zkf1300, zka1500, zkb1500, zks1500, zkt1500, zkl1500, zkn1500, zkg1500, zkh1500, zke1500, zkf1500, zka1540, zkb1540, zks1540, zkt1540, zkl1540, zkn1540, zkg1540, zkh1540, zke1540, zkf1540, zka1604, zkb1604, zks1604, zkt1604, zkl1604, zkn1604, zkg1604, zkh1604, zke1604, zkf1604, zka1668, zkb1668, zks1668, zkt1668, zkl1668, zkn1668, zkg1668, zkh1668, zke1668, zkf1668, zka2000, zkb2000, zks2000, zkt2000, zkl2000, zkn2000, zkg2000, zkh2000, zke2000, zkf2000, zka4999, zkb4999, zks4999, zkt4999, zkl4999, zkn4999, zkg4999, zkh4999, zke4999, zkf4999, zka5000, zkb5000, zks5000, zkt5000, zkl5000, zkn5000, zkg5000, zkh5000, zke5000, zkf5000, zkm1, zn_add, zn_add1, zn_sub, zn_sub1, zn_mul, zn_lt, zn_le, zn_eq, zci, zcl, zcr, zcv, zrb0, zrb1, if_pos, if_neg, if_true, if_false]
      exact (e l1).1
    · rw [(e l1).2.2]
      simp only [zst_at]
      grind
def zlayG (L : List Int32) (m : Nat) : Nat → Nat → Int32
  | 0 => fun _ => zN
  | k + 1 => zgu (zlayG L m k) (64 * k / m) (L.getD k 0)
theorem m_lay45 {L : List Int32} {m : Nat} (hm : m ≤ 48) (hL : m ≤ L.length) (hb : ∀ v ∈ L, v ≠ zN) : ∀ (d k : Nat) (I : zI), k + d = m → zrow (I 185) L → zMG (I 182) (zlayG L m k) → ∃ I', zg_M_lay_45 X 181 (Int32.ofNat m) (Int32.ofNat k) (zM b0 I J) = some (some (.int (Int32.ofNat m)), zM b0 I' J) ∧ zMG (I' 182) (zlayG L m m) ∧ (∀ a, a ≠ 182 → I' a = I a) ∧ ∀ i, i < 1540 → I' 182 i = I 182 i := by
  intro d
  induction d with
  | zero =>
    intro k I hk h1 h2
    have : k = m := by omega
    subst this
    refine ⟨I, ?_, h2, fun a _ => rfl, fun i _ => rfl⟩
    rw [zg_M_lay_45_e, if_pos ((zn_le (by omega) (by omega)).mpr (by omega)), zg_M_lay_72_e]
  | succ d ih =>
    intro k I hk h1 h2
    have hkl : k < L.length := by omega
    have hv : I 185 k = L[k] := zrow_sub h1 hkl
    have hc : 64 * k / m < 64 := by
      rw [Nat.div_lt_iff_lt_mul (by omega)]; omega
    have hdiv : (64 : Int32) * Int32.ofNat k / Int32.ofNat m = Int32.ofNat (64 * k / m) := by
      rw [zkm64, zn_div (by omega) (by omega) (by omega)]
    obtain ⟨I1, e1, e2, e3, e4⟩ := m_fills X (b0 := b0) (J := J) (x := L[k]) h2 hc (hb _ (List.getElem_mem hkl))
    obtain ⟨I2, f1, f2, f3, f4⟩ := ih (k + 1) I1 (by omega) (by rw [e3 185 (by decide)]; exact h1) (by
      show zMG (I1 182) (zgu (zlayG L m k) (64 * k / m) (L.getD k 0))
      rw [show L.getD k 0 = L[k] by simp [hkl]]; exact e2)
    refine ⟨I2, ?_, f2, fun a ha => by rw [f3 a ha, e3 a ha], fun i hi => by rw [f4 i hi, e4 i hi]⟩
    rw [zg_M_lay_45_e, if_neg (fun q => absurd ((zn_le (by omega) (by omega)).mp q) (by omega)), if_neg (fun q => absurd ((zke0 (by omega)).mp q) (by omega))]
    simp (disch := omega) only [zM_I, zM_J, zM_P, zM_wI, zM_wL, zrf, zo0, zo1, zo2, zo7, zo10, zo12, zo16, zo17, zo22, zo25, zo27, zo31, zo33, zo40, zo42, zo43, zo46, zo109, zo111, zo112, zo115, zo178, zo181, zp0_0, zp0_1, zp0_3, zp0_4, zp0_5, zp0_6, zp0_7, zp1_0, zp1_1, zp1_3, zp1_5, zp1_6, zp1_7, zp2_0, zp2_1, zp7_0, zp7_1, zp10_0, zp12_0, zp12_1, zp12_3, zp16_0, zp16_1, zp16_3, zp16_5, zp16_6, zp16_7, zp17_0, zp17_1, zp22_0, zp22_1, zp25_0, zp27_0, zp27_1, zp27_3, zp31_0, zp31_2, zp31_3, zp31_6, zp31_7, zp31_8, zp33_0, zp33_1, zp40_0, zp40_1, zp42_0, zp42_1, zp43_0, zp43_1, zp46_0, zp46_1, zp109_0, zp109_1, zp111_0, zp111_1, zp112_0, zp112_1, zp115_0, zp115_1, zp178_0, zp181_0, zp181_1, zp181_2, zp181_4, zp181_5, zp181_6, zp181_17, zp181_18, zp181_19, zp181_20, zp181_21, zp181_22, zp181_23, zp181_24, zp181_31, zp181_32, zx3, zx4, zx5, zx6, zx8, zx9, zx11, zx13, zx14, zx15, zx18, zx19, zx20, zx21, zx23, zx24, zx26, zx28, zx29, zx30, zx32, zx34, zx35, zx36, zx37, zx38, zx39, zx44, zx45, zx47, zx48, zx113, zx114, zx116, zx117, zx179, zx180, zx182, zx183, zx184, zx185, zx186, zx187, zx253, zx254, zx255, zx256, zx257, zx182, zw_0, zw_1, zw_2, zw_3, zw_4, zw_5, zw_6, zw_7, zw_8, zw_9, zw_10, zw_11, zw_12, zw_13, zw_14, zx6_0, zx6_1, zx6_2, zx6_3, zx6_4, zx6_5, zx6_6, zx6_7, zx21_0, zx21_1, zx21_2, zx21_3, zx21_4, zx21_5, zx21_6, zx21_7, zx36_0, zx36_1, zx36_2, zx36_3, zx36_4, zx36_5, zx36_6, zx36_7, zka0, zkb0, zks0, zkt0, zkl0, zkn0, zkg0, zkh0, zke0, zkf0, zka1, zkb1, zks1, zkt1, zkl1, zkn1, zkg1, zkh1, zke1, zkf1, zka2, zkb2, zks2, zkt2, zkl2, zkn2, zkg2, zkh2, zke2, zkf2, zka3, zkb3, zks3, zkt3, zkl3, zkn3, zkg3, zkh3, zke3, zkf3, zka4, zkb4, zks4, zkt4, zkl4, zkn4, zkg4, zkh4, zke4, zkf4, zka5, zkb5, zks5, zkt5, zkl5, zkn5, zkg5, zkh5, zke5, zkf5, zka6, zkb6, zks6, zkt6, zkl6, zkn6, zkg6, zkh6, zke6, zkf6, zka7, zkb7, zks7, zkt7, zkl7, zkn7, zkg7, zkh7, zke7, zkf7, zka8, zkb8, zks8, zkt8, zkl8, zkn8, zkg8, zkh8, zke8, zkf8, zka9, zkb9, zks9, zkt9, zkl9, zkn9, zkg9, zkh9, zke9, zkf9, zka10, zkb10, zks10, zkt10, zkl10, zkn10, zkg10, zkh10, zke10, zkf10, zka11, zkb11, zks11, zkt11, zkl11, zkn11, zkg11, zkh11, zke11, zkf11, zka12, zkb12, zks12, zkt12, zkl12, zkn12, zkg12, zkh12, zke12, zkf12, zka13, zkb13, zks13, zkt13, zkl13, zkn13, zkg13, zkh13, zke13, zkf13, zka14, zkb14, zks14, zkt14, zkl14, zkn14, zkg14, zkh14, zke14, zkf14, zka15, zkb15, zks15, zkt15, zkl15, zkn15, zkg15, zkh15, zke15, zkf15, zka16, zkb16, zks16, zkt16, zkl16, zkn16, zkg16, zkh16, zke16, zkf16, zka19, zkb19, zks19, zkt19, zkl19, zkn19, zkg19, zkh19, zke19, zkf19, zka20, zkb20, zks20, zkt20, zkl20, zkn20, zkg20, zkh20, zke20, zkf20, zka24, zkb24, zks24, zkt24, zkl24, zkn24, zkg24, zkh24, zke24, zkf24, zka27, zkb27, zks27, zkt27, zkl27, zkn27, zkg27, zkh27, zke27, zkf27, zka31, zkb31, zks31, zkt31, zkl31, zkn31, zkg31, zkh31, zke31, zkf31, zka32, zkb32, zks32, zkt32, zkl32, zkn32, zkg32, zkh32, zke32, zkf32, zka40, zkb40, zks40, zkt40, zkl40, zkn40, zkg40, zkh40, zke40, zkf40, zka48, zkb48, zks48, zkt48, zkl48, zkn48, zkg48, zkh48, zke48, zkf48, zka50, zkb50, zks50, zkt50, zkl50, zkn50, zkg50, zkh50, zke50, zkf50, zka60, zkb60, zks60, zkt60, zkl60, zkn60, zkg60, zkh60, zke60, zkf60, zka64, zkb64, zks64, zkt64, zkl64, zkn64, zkg64, zkh64, zke64, zkf64, zka99, zkb99, zks99, zkt99, zkl99, zkn99, zkg99, zkh99, zke99, zkf99, zka100, zkb100, zks100, zkt100, zkl100, zkn100, zkg100, zkh100, zke100, zkf100, zka300, zkb300, zks300, zkt300, zkl300, zkn300, zkg300, zkh300, zke300, zkf300, zka302, zkb302, zks302, zkt302, zkl302, zkn302, zkg302, zkh302, zke302, zkf302, zka320, zkb320, zks320, zkt320, zkl320, zkn320, zkg320, zkh320, zke320, zkf320, zka512, zkb512, zks512, zkt512, zkl512, zkn512, zkg512, zkh512, zke512, zkf512, zka599, zkb599, zks599, zkt599, zkl599, zkn599, zkg599, zkh599, zke599, zkf599, zka600, zkb600, zks600, zkt600, zkl600, zkn600, zkg600, zkh600, zke600, zkf600, zka601, zkb601, zks601, zkt601, zkl601, zkn601, zkg601, zkh601, zke601, zkf601, zka620, zkb620, zks620, zkt620, zkl620, zkn620, zkg620, zkh620, zke620, zkf620, zka920, zkb920, zks920, zkt920, zkl920, zkn920, zkg920, zkh920, zke920, zkf920, zka999, zkb999, zks999, zkt999, zkl999, zkn999, zkg999, zkh999, zke999, zkf999, zka1000, zkb1000, zks1000, zkt1000, zkl1000, zkn1000, zkg1000, zkh1000, zke1000, zkf1000, zka1024, zkb1024, zks1024, zkt1024, zkl1024, zkn1024, zkg1024, zkh1024, zke1024, zkf1024, zka1220, zkb1220, zks1220, zkt1220, zkl1220, zkn1220, zkg1220, zkh1220, zke1220, zkf1220, zka1260, zkb1260, zks1260, zkt1260, zkl1260, zkn1260, zkg1260, zkh1260, zke1260, zkf1260, zka1300, zkb1300, zks1300, zkt1300, zkl1300, zkn1300, zkg1300, zkh1300, zke1300, zkf1300, zka1500, zkb1500, zks1500, zkt1500, zkl1500, zkn1500, zkg1500, zkh1500, zke1500, zkf1500, zka1540, zkb1540, zks1540, zkt1540, zkl1540, zkn1540, zkg1540, zkh1540, zke1540, zkf1540, zka1604, zkb1604, zks1604, zkt1604, zkl1604, zkn1604, zkg1604, zkh1604, zke1604, zkf1604, zka1668, zkb1668, zks1668, zkt1668, zkl1668, zkn1668, zkg1668, zkh1668, zke1668, zkf1668, zka2000, zkb2000, zks2000, zkt2000, zkl2000, zkn2000, zkg2000, zkh2000, zke2000, zkf2000, zka4999, zkb4999, zks4999, zkt4999, zkl4999, zkn4999, zkg4999, zkh4999, zke4999, zkf4999, zka5000, zkb5000, zks5000, zkt5000, zkl5000, zkn5000, zkg5000, zkh5000, zke5000, zkf5000, zkm1, zn_add, zn_add1, zn_sub, zn_sub1, zn_mul, zn_lt, zn_le, zn_eq, zci, zcl, zcr, zcv, zrb0, zrb1, if_pos, if_neg, if_true, if_false]
    rw [hdiv, hv, e1, zcv]
    exact f1
theorem m_lay {K : zKL} {R : List Int32} (h : zMK (I 182) K R) (hr : zKR K R) (hb : ∀ q ∈ K, q.1 ≠ zN) : ∃ I', zg_M_lay_0 X 181 (zM b0 I J) = some (some (.int (Int32.ofNat (min 48 K.length))), zM b0 I' J) ∧ zMG (I' 182) (zlayG (K.map (·.1)) (min 48 K.length) (min 48 K.length)) ∧ (∀ a, a ≠ 182 → a ≠ 185 → a ≠ 186 → I' a = I a) ∧ ∀ i, i < 1540 → I' 182 i = I 182 i := by
  obtain ⟨I1, e1, e2, e3, e4⟩ := m_laysAll X (b := b0) (J := J) h hr
  have hl := hr.2.2.1
  obtain ⟨I2, f⟩ := m_lay20 X (b0 := b0) (J := J) 64 0 I1 (by omega)
  have k1 : I1 182 = I 182 := e4 182 (by decide) (by decide)
  obtain ⟨f1, f2, f3⟩ := f (Int32.ofNat (min 48 K.length))
  obtain ⟨I3, g1, g2, g3, g4⟩ := m_lay45 X (b0 := b0) (J := J) (L := K.map (·.1)) (m := min 48 K.length) (by omega) (by simp; omega) (fun v hv => by
    obtain ⟨q, hq, e⟩ := List.mem_map.mp hv
    rw [← e]; exact hb q hq) (min 48 K.length) 0 I2 (by omega) (by rw [f2 185 (by decide)]; exact e2) (fun c hc => by
    refine ⟨fun _ => ?_, fun q => absurd rfl q⟩
    rw [f3, if_pos (by omega)])
  refine ⟨I3, ?_, g2, fun a a1 a2 a3 => by rw [g3 a a1, f2 a a1, e4 a a2 a3], fun i hi => by rw [g4 i hi, f3, if_neg (by omega), k1]⟩
  rw [← g1, zg_M_lay_0_e, zo181, e1, zci]
  have : (Int32.ofNat 0 : Int32) = 0 := rfl
  by_cases c : K.length ≤ 48
  · rw [if_pos ((zkn48 (by omega)).mpr c), zg_M_lay_16_e, zg_M_lay_17_e]
    rw [show min 48 K.length = K.length by omega] at f1 ⊢
    exact f1
  · rw [if_neg (fun q => c ((zkn48 (by omega)).mp q)), zg_M_lay_17_e]
    rw [show min 48 K.length = 48 by omega] at f1 ⊢
    exact f1
theorem m_put20 (hg : zMG (I 182) G) (hx : x ≠ zN) (hn : ∀ i, i < 64 → G i ≠ x) : ∀ (m k a1 b n : Nat), k + m = 64 → zab G x 0 k a1 b → n ≤ k → (n = k ↔ ∀ i, i < k → G i ≠ zN) → ∃ a1' b' n', zab G x 0 64 a1' b' ∧ n' ≤ 64 ∧ (n' = 64 ↔ ∀ i, i < 64 → G i ≠ zN) ∧ zg_M_put_20 X 181 x (Int32.ofNat a1 - 1) (Int32.ofNat b) (Int32.ofNat n) (Int32.ofNat k) (zM b0 I J) = zg_M_put_95 X 181 x (Int32.ofNat a1' - 1) (Int32.ofNat b') (Int32.ofNat n') (zM b0 I J) := by
  intro m
  induction m with
  | zero =>
    intro k a1 b n hk h1 h2 h3
    have : k = 64 := by omega
    subst this
    refine ⟨a1, b, n, h1, h2, h3, ?_⟩
    rw [zg_M_put_20_e, if_pos (by decide)]
  | succ m ih =>
    intro k a1 b n hk h1 h2 h3
    obtain ⟨p1, p2, p3, p4⟩ := h1
    have hb64 : b ≤ 64 := by rcases p4 with q | q <;> omega
    have step : zg_M_put_20 X 181 x (Int32.ofNat a1 - 1) (Int32.ofNat b) (Int32.ofNat n) (Int32.ofNat k) (zM b0 I J) = if G k = zN then zg_M_put_89 X 181 x (Int32.ofNat a1 - 1) (Int32.ofNat b) (Int32.ofNat n) (Int32.ofNat k) (zM b0 I J) else zg_M_put_39 X 181 x (Int32.ofNat a1 - 1) (Int32.ofNat b) (Int32.ofNat n) (Int32.ofNat k) (zM b0 I J) := by
      rw [zg_M_put_20_e, if_neg (fun q => absurd ((zkh64 (by omega)).mp q) (by omega)), zo181, m_isFull X hg (by omega), zci]
      by_cases c : G k = zN
      · rw [if_pos c, if_pos rfl, if_pos c]
      · rw [if_neg c, if_neg (by decide), if_neg c]
    rw [step]
    by_cases c : G k = zN
    · rw [if_pos c, zg_M_put_89_e, zn_add1]
      refine ih (k + 1) a1 b n (by omega) ⟨fun i hi hi' hf hlt => ?_, ?_, fun i hi hi' hf hlt => ?_, ?_⟩ (by omega) ⟨fun q => by omega, fun q => absurd c (q k (by omega))⟩
      · rcases Nat.lt_or_ge i k with d | d
        · exact p1 i hi d hf hlt
        · have : i = k := by omega
          subst this; exact absurd c hf
      · rcases p2 with q | q
        · exact Or.inl q
        · exact Or.inr ⟨q.1, by omega, q.2.2⟩
      · rcases Nat.lt_or_ge i k with d | d
        · exact p3 i hi d hf hlt
        · have : i = k := by omega
          subst this; exact absurd c hf
      · rcases p4 with q | q
        · exact Or.inl q
        · exact Or.inr ⟨q.1, by omega, q.2.2⟩
    · have hv : I 182 (1540 + k) = G k := ((hg k (by omega)).2 c).2
      have hne := hn k (by omega)
      rw [if_neg c, zg_M_put_39_e]
      simp (disch := omega) only [zM_I, zM_J, zM_P, zM_wI, zM_wL, zrf, zo0, zo1, zo2, zo7, zo10, zo12, zo16, zo17, zo22, zo25, zo27, zo31, zo33, zo40, zo42, zo43, zo46, zo109, zo111, zo112, zo115, zo178, zo181, zp0_0, zp0_1, zp0_3, zp0_4, zp0_5, zp0_6, zp0_7, zp1_0, zp1_1, zp1_3, zp1_5, zp1_6, zp1_7, zp2_0, zp2_1, zp7_0, zp7_1, zp10_0, zp12_0, zp12_1, zp12_3, zp16_0, zp16_1, zp16_3, zp16_5, zp16_6, zp16_7, zp17_0, zp17_1, zp22_0, zp22_1, zp25_0, zp27_0, zp27_1, zp27_3, zp31_0, zp31_2, zp31_3, zp31_6, zp31_7, zp31_8, zp33_0, zp33_1, zp40_0, zp40_1, zp42_0, zp42_1, zp43_0, zp43_1, zp46_0, zp46_1, zp109_0, zp109_1, zp111_0, zp111_1, zp112_0, zp112_1, zp115_0, zp115_1, zp178_0, zp181_0, zp181_1, zp181_2, zp181_4, zp181_5, zp181_6, zp181_17, zp181_18, zp181_19, zp181_20, zp181_21, zp181_22, zp181_23, zp181_24, zp181_31, zp181_32, zx3, zx4, zx5, zx6, zx8, zx9, zx11, zx13, zx14, zx15, zx18, zx19, zx20, zx21, zx23, zx24, zx26, zx28, zx29, zx30, zx32, zx34, zx35, zx36, zx37, zx38, zx39, zx44, zx45, zx47, zx48, zx113, zx114, zx116, zx117, zx179, zx180, zx182, zx183, zx184, zx185, zx186, zx187, zx253, zx254, zx255, zx256, zx257, zx182, zw_0, zw_1, zw_2, zw_3, zw_4, zw_5, zw_6, zw_7, zw_8, zw_9, zw_10, zw_11, zw_12, zw_13, zw_14, zx6_0, zx6_1, zx6_2, zx6_3, zx6_4, zx6_5, zx6_6, zx6_7, zx21_0, zx21_1, zx21_2, zx21_3, zx21_4, zx21_5, zx21_6, zx21_7, zx36_0, zx36_1, zx36_2, zx36_3, zx36_4, zx36_5, zx36_6, zx36_7, zka0, zkb0, zks0, zkt0, zkl0, zkn0, zkg0, zkh0, zke0, zkf0, zka1, zkb1, zks1, zkt1, zkl1, zkn1, zkg1, zkh1, zke1, zkf1, zka2, zkb2, zks2, zkt2, zkl2, zkn2, zkg2, zkh2, zke2, zkf2, zka3, zkb3, zks3, zkt3, zkl3, zkn3, zkg3, zkh3, zke3, zkf3, zka4, zkb4, zks4, zkt4, zkl4, zkn4, zkg4, zkh4, zke4, zkf4, zka5, zkb5, zks5, zkt5, zkl5, zkn5, zkg5, zkh5, zke5, zkf5, zka6, zkb6, zks6, zkt6, zkl6, zkn6, zkg6, zkh6, zke6, zkf6, zka7, zkb7, zks7, zkt7, zkl7, zkn7, zkg7, zkh7, zke7, zkf7, zka8, zkb8, zks8, zkt8, zkl8, zkn8, zkg8, zkh8, zke8, zkf8, zka9, zkb9, zks9, zkt9, zkl9, zkn9, zkg9, zkh9, zke9, zkf9, zka10, zkb10, zks10, zkt10, zkl10, zkn10, zkg10, zkh10, zke10, zkf10, zka11, zkb11, zks11, zkt11, zkl11, zkn11, zkg11, zkh11, zke11, zkf11, zka12, zkb12, zks12, zkt12, zkl12, zkn12, zkg12, zkh12, zke12, zkf12, zka13, zkb13, zks13, zkt13, zkl13, zkn13, zkg13, zkh13, zke13, zkf13, zka14, zkb14, zks14, zkt14, zkl14, zkn14, zkg14, zkh14, zke14, zkf14, zka15, zkb15, zks15, zkt15, zkl15, zkn15, zkg15, zkh15, zke15, zkf15, zka16, zkb16, zks16, zkt16, zkl16, zkn16, zkg16, zkh16, zke16, zkf16, zka19, zkb19, zks19, zkt19, zkl19, zkn19, zkg19, zkh19, zke19, zkf19, zka20, zkb20, zks20, zkt20, zkl20, zkn20, zkg20, zkh20, zke20, zkf20, zka24, zkb24, zks24, zkt24, zkl24, zkn24, zkg24, zkh24, zke24, zkf24, zka27, zkb27, zks27, zkt27, zkl27, zkn27, zkg27, zkh27, zke27, zkf27, zka31, zkb31, zks31, zkt31, zkl31, zkn31, zkg31, zkh31, zke31, zkf31, zka32, zkb32, zks32, zkt32, zkl32, zkn32, zkg32, zkh32, zke32, zkf32, zka40, zkb40, zks40, zkt40, zkl40, zkn40, zkg40, zkh40, zke40, zkf40, zka48, zkb48, zks48, zkt48, zkl48, zkn48, zkg48, zkh48, zke48, zkf48, zka50, zkb50, zks50, zkt50, zkl50, zkn50, zkg50, zkh50, zke50, zkf50, zka60, zkb60, zks60, zkt60, zkl60, zkn60, zkg60, zkh60, zke60, zkf60, zka64, zkb64, zks64, zkt64, zkl64, zkn64, zkg64, zkh64, zke64, zkf64, zka99, zkb99, zks99, zkt99, zkl99, zkn99, zkg99, zkh99, zke99, zkf99, zka100, zkb100, zks100, zkt100, zkl100, zkn100, zkg100, zkh100, zke100, zkf100, zka300, zkb300, zks300, zkt300, zkl300, zkn300, zkg300, zkh300, zke300, zkf300, zka302, zkb302, zks302, zkt302, zkl302, zkn302, zkg302, zkh302, zke302, zkf302, zka320, zkb320, zks320, zkt320, zkl320, zkn320, zkg320, zkh320, zke320, zkf320, zka512, zkb512, zks512, zkt512, zkl512, zkn512, zkg512, zkh512, zke512, zkf512, zka599, zkb599, zks599, zkt599, zkl599, zkn599, zkg599, zkh599, zke599, zkf599, zka600, zkb600, zks600, zkt600, zkl600, zkn600, zkg600, zkh600, zke600, zkf600, zka601, zkb601, zks601, zkt601, zkl601, zkn601, zkg601, zkh601, zke601, zkf601, zka620, zkb620, zks620, zkt620, zkl620, zkn620, zkg620, zkh620, zke620, zkf620, zka920, zkb920, zks920, zkt920, zkl920, zkn920, zkg920, zkh920, zke920, zkf920, zka999, zkb999, zks999, zkt999, zkl999, zkn999, zkg999, zkh999, zke999, zkf999, zka1000, zkb1000, zks1000, zkt1000, zkl1000, zkn1000, zkg1000, zkh1000, zke1000, zkf1000, zka1024, zkb1024, zks1024, zkt1024, zkl1024, zkn1024, zkg1024, zkh1024, zke1024, zkf1024, zka1220, zkb1220, zks1220, zkt1220, zkl1220, zkn1220, zkg1220, zkh1220, zke1220, zkf1220, zka1260, zkb1260, zks1260, zkt1260, zkl1260, zkn1260, zkg1260, zkh1260, zke1260, zkf1260, zka1300, zkb1300, zks1300, zkt1300, zkl1300, zkn1300, zkg1300, zkh1300, zke1300, zkf1300, zka1500, zkb1500, zks1500, zkt1500, zkl1500, zkn1500, zkg1500, zkh1500, zke1500, zkf1500, zka1540, zkb1540, zks1540, zkt1540, zkl1540, zkn1540, zkg1540, zkh1540, zke1540, zkf1540, zka1604, zkb1604, zks1604, zkt1604, zkl1604, zkn1604, zkg1604, zkh1604, zke1604, zkf1604, zka1668, zkb1668, zks1668, zkt1668, zkl1668, zkn1668, zkg1668, zkh1668, zke1668, zkf1668, zka2000, zkb2000, zks2000, zkt2000, zkl2000, zkn2000, zkg2000, zkh2000, zke2000, zkf2000, zka4999, zkb4999, zks4999, zkt4999, zkl4999, zkn4999, zkg4999, zkh4999, zke4999, zkf4999, zka5000, zkb5000, zks5000, zkt5000, zkl5000, zkn5000, zkg5000, zkh5000, zke5000, zkf5000, zkm1, zn_add, zn_add1, zn_sub, zn_sub1, zn_mul, zn_lt, zn_le, zn_eq, zci, zcl, zcr, zcv, zrb0, zrb1, if_pos, if_neg, if_true, if_false, hv, zg_M_put_59_e]
      rw [ne_eq, zi_eq] at hne
      have hcnt : (n + 1 = k + 1 ↔ ∀ i, i < k + 1 → G i ≠ zN) := by
        constructor
        · intro q i hi
          rcases Nat.lt_or_ge i k with d | d
          · exact h3.mp (by omega) i d
          · have : i = k := by omega
            subst this; exact c
        · intro q
          have := h3.mpr (fun i hi => q i (by omega))
          omega
      by_cases d : x ≤ G k
      · rw [if_pos d, zg_M_put_80_e]
        have hlt : x < G k := by rw [zi_le] at d; rw [zi_lt]; omega
        by_cases e : b = 64
        · subst e
          rw [if_pos (show Int32.ofNat 64 = 64 from rfl), zg_M_put_89_e, zn_add1]
          refine ih (k + 1) a1 k (n + 1) (by omega) ⟨fun i hi hi' hf hl => ?_, ?_, fun i hi hi' hf hl => ?_, Or.inr ⟨by omega, by omega, c, hlt⟩⟩ (by omega) hcnt
          · rcases Nat.lt_or_ge i k with f | f
            · exact p1 i hi f hf hl
            · have : i = k := by omega
              subst this
              rw [zi_lt] at hl hlt; omega
          · rcases p2 with q | q
            · exact Or.inl q
            · exact Or.inr ⟨q.1, by omega, q.2.2⟩
          · rcases Nat.lt_or_ge i k with f | f
            · have := p3 i hi f hf hl; omega
            · exact f
        · rw [if_neg (fun q => e ((zke64 (by omega)).mp q)), zg_M_put_89_e, zn_add1]
          refine ih (k + 1) a1 b (n + 1) (by omega) ⟨fun i hi hi' hf hl => ?_, ?_, fun i hi hi' hf hl => ?_, ?_⟩ (by omega) hcnt
          · rcases Nat.lt_or_ge i k with f | f
            · exact p1 i hi f hf hl
            · have : i = k := by omega
              subst this
              rw [zi_lt] at hl hlt; omega
          · rcases p2 with q | q
            · exact Or.inl q
            · exact Or.inr ⟨q.1, by omega, q.2.2⟩
          · rcases p4 with q | q
            · omega
            · rcases Nat.lt_or_ge i k with f | f
              · exact p3 i hi f hf hl
              · omega
          · rcases p4 with q | q
            · omega
            · exact Or.inr ⟨q.1, by omega, q.2.2⟩
      · rw [if_neg d, zg_M_put_89_e, zn_add1]
        have hlt : G k < x := by rw [zi_le] at d; rw [zi_lt]; omega
        have ek : Int32.ofNat k = Int32.ofNat (k + 1) - 1 := by rw [zn_sub1 (by omega), Nat.add_sub_cancel]
        conv => enter [1, a1', 1, b', 1, n', 2, 2, 2, 1]; rw [ek]
        refine ih (k + 1) (k + 1) b (n + 1) (by omega) ⟨fun i hi hi' hf hl => by omega, Or.inr ⟨by omega, by omega, by simpa using c, by simpa using hlt⟩, fun i hi hi' hf hl => ?_, ?_⟩ (by omega) hcnt
        · rcases Nat.lt_or_ge i k with f | f
          · exact p3 i hi f hf hl
          · have : i = k := by omega
            subst this
            rw [zi_lt] at hl hlt; omega
        · rcases p4 with q | q
          · exact Or.inl q
          · exact Or.inr ⟨q.1, by omega, q.2.2⟩
theorem m_put_same (hg : zMG (I 182) G) {c : Nat} (hc : c < 64) (hx : G c = x) (hxN : x ≠ zN) : ∀ (m k a1 b n : Nat), k + m = c → (∀ i, k ≤ i → i < c → G i ≠ x) → ∀ l2 l3 l4, zg_M_put_20 X 181 x l2 l3 l4 (Int32.ofNat k) (zM b0 I J) = some (some (.int (-1)), zM b0 I J) := by
  intro m
  induction m with
  | zero =>
    intro k a1 b n hk hn l2 l3 l4
    have : k = c := by omega
    subst this
    have hv : I 182 (1540 + k) = G k := ((hg k hc).2 (by rw [hx]; exact hxN)).2
    rw [zg_M_put_20_e, if_neg (fun q => absurd ((zkh64 (by omega)).mp q) (by omega)), zo181, m_isFull X hg (by omega), zci, if_neg (by rw [if_neg (by rw [hx]; exact hxN)]; decide), zg_M_put_39_e]
    simp (disch := omega) only [zM_I, zM_J, zM_P, zM_wI, zM_wL, zrf, zo0, zo1, zo2, zo7, zo10, zo12, zo16, zo17, zo22, zo25, zo27, zo31, zo33, zo40, zo42, zo43, zo46, zo109, zo111, zo112, zo115, zo178, zo181, zp0_0, zp0_1, zp0_3, zp0_4, zp0_5, zp0_6, zp0_7, zp1_0, zp1_1, zp1_3, zp1_5, zp1_6, zp1_7, zp2_0, zp2_1, zp7_0, zp7_1, zp10_0, zp12_0, zp12_1, zp12_3, zp16_0, zp16_1, zp16_3, zp16_5, zp16_6, zp16_7, zp17_0, zp17_1, zp22_0, zp22_1, zp25_0, zp27_0, zp27_1, zp27_3, zp31_0, zp31_2, zp31_3, zp31_6, zp31_7, zp31_8, zp33_0, zp33_1, zp40_0, zp40_1, zp42_0, zp42_1, zp43_0, zp43_1, zp46_0, zp46_1, zp109_0, zp109_1, zp111_0, zp111_1, zp112_0, zp112_1, zp115_0, zp115_1, zp178_0, zp181_0, zp181_1, zp181_2, zp181_4, zp181_5, zp181_6, zp181_17, zp181_18, zp181_19, zp181_20, zp181_21, zp181_22, zp181_23, zp181_24, zp181_31, zp181_32, zx3, zx4, zx5, zx6, zx8, zx9, zx11, zx13, zx14, zx15, zx18, zx19, zx20, zx21, zx23, zx24, zx26, zx28, zx29, zx30, zx32, zx34, zx35, zx36, zx37, zx38, zx39, zx44, zx45, zx47, zx48, zx113, zx114, zx116, zx117, zx179, zx180, zx182, zx183, zx184, zx185, zx186, zx187, zx253, zx254, zx255, zx256, zx257, zx182, zw_0, zw_1, zw_2, zw_3, zw_4, zw_5, zw_6, zw_7, zw_8, zw_9, zw_10, zw_11, zw_12, zw_13, zw_14, zx6_0, zx6_1, zx6_2, zx6_3, zx6_4, zx6_5, zx6_6, zx6_7, zx21_0, zx21_1, zx21_2, zx21_3, zx21_4, zx21_5, zx21_6, zx21_7, zx36_0, zx36_1, zx36_2, zx36_3, zx36_4, zx36_5, zx36_6, zx36_7, zka0, zkb0, zks0, zkt0, zkl0, zkn0, zkg0, zkh0, zke0, zkf0, zka1, zkb1, zks1, zkt1, zkl1, zkn1, zkg1, zkh1, zke1, zkf1, zka2, zkb2, zks2, zkt2, zkl2, zkn2, zkg2, zkh2, zke2, zkf2, zka3, zkb3, zks3, zkt3, zkl3, zkn3, zkg3, zkh3, zke3, zkf3, zka4, zkb4, zks4, zkt4, zkl4, zkn4, zkg4, zkh4, zke4, zkf4, zka5, zkb5, zks5, zkt5, zkl5, zkn5, zkg5, zkh5, zke5, zkf5, zka6, zkb6, zks6, zkt6, zkl6, zkn6, zkg6, zkh6, zke6, zkf6, zka7, zkb7, zks7, zkt7, zkl7, zkn7, zkg7, zkh7, zke7, zkf7, zka8, zkb8, zks8, zkt8, zkl8, zkn8, zkg8, zkh8, zke8, zkf8, zka9, zkb9, zks9, zkt9, zkl9, zkn9, zkg9, zkh9, zke9, zkf9, zka10, zkb10, zks10, zkt10, zkl10, zkn10, zkg10, zkh10, zke10, zkf10, zka11, zkb11, zks11, zkt11, zkl11, zkn11, zkg11, zkh11, zke11, zkf11, zka12, zkb12, zks12, zkt12, zkl12, zkn12, zkg12, zkh12, zke12, zkf12, zka13, zkb13, zks13, zkt13, zkl13, zkn13, zkg13, zkh13, zke13, zkf13, zka14, zkb14, zks14, zkt14, zkl14, zkn14, zkg14, zkh14, zke14, zkf14, zka15, zkb15, zks15, zkt15, zkl15, zkn15, zkg15, zkh15, zke15, zkf15, zka16, zkb16, zks16, zkt16, zkl16, zkn16, zkg16, zkh16, zke16, zkf16, zka19, zkb19, zks19, zkt19, zkl19, zkn19, zkg19, zkh19, zke19, zkf19, zka20, zkb20, zks20, zkt20, zkl20, zkn20, zkg20, zkh20, zke20, zkf20, zka24, zkb24, zks24, zkt24, zkl24, zkn24, zkg24, zkh24, zke24, zkf24, zka27, zkb27, zks27, zkt27, zkl27, zkn27, zkg27, zkh27, zke27, zkf27, zka31, zkb31, zks31, zkt31, zkl31, zkn31, zkg31, zkh31, zke31, zkf31, zka32, zkb32, zks32, zkt32, zkl32, zkn32, zkg32, zkh32, zke32, zkf32, zka40, zkb40, zks40, zkt40, zkl40, zkn40, zkg40, zkh40, zke40, zkf40, zka48, zkb48, zks48, zkt48, zkl48, zkn48, zkg48, zkh48, zke48, zkf48, zka50, zkb50, zks50, zkt50, zkl50, zkn50, zkg50, zkh50, zke50, zkf50, zka60, zkb60, zks60, zkt60, zkl60, zkn60, zkg60, zkh60, zke60, zkf60, zka64, zkb64, zks64, zkt64, zkl64, zkn64, zkg64, zkh64, zke64, zkf64, zka99, zkb99, zks99, zkt99, zkl99, zkn99, zkg99, zkh99, zke99, zkf99, zka100, zkb100, zks100, zkt100, zkl100, zkn100, zkg100, zkh100, zke100, zkf100, zka300, zkb300, zks300, zkt300, zkl300, zkn300, zkg300, zkh300, zke300, zkf300, zka302, zkb302, zks302, zkt302, zkl302, zkn302, zkg302, zkh302, zke302, zkf302, zka320, zkb320, zks320, zkt320, zkl320, zkn320, zkg320, zkh320, zke320, zkf320, zka512, zkb512, zks512, zkt512, zkl512, zkn512, zkg512, zkh512, zke512, zkf512, zka599, zkb599, zks599, zkt599, zkl599, zkn599, zkg599, zkh599, zke599, zkf599, zka600, zkb600, zks600, zkt600, zkl600, zkn600, zkg600, zkh600, zke600, zkf600, zka601, zkb601, zks601, zkt601, zkl601, zkn601, zkg601, zkh601, zke601, zkf601, zka620, zkb620, zks620, zkt620, zkl620, zkn620, zkg620, zkh620, zke620, zkf620, zka920, zkb920, zks920, zkt920, zkl920, zkn920, zkg920, zkh920, zke920, zkf920, zka999, zkb999, zks999, zkt999, zkl999, zkn999, zkg999, zkh999, zke999, zkf999, zka1000, zkb1000, zks1000, zkt1000, zkl1000, zkn1000, zkg1000, zkh1000, zke1000, zkf1000, zka1024, zkb1024, zks1024, zkt1024, zkl1024, zkn1024, zkg1024, zkh1024, zke1024, zkf1024, zka1220, zkb1220, zks1220, zkt1220, zkl1220, zkn1220, zkg1220, zkh1220, zke1220, zkf1220, zka1260, zkb1260, zks1260, zkt1260, zkl1260, zkn1260, zkg1260, zkh1260, zke1260, zkf1260, zka1300, zkb1300, zks1300, zkt1300, zkl1300, zkn1300, zkg1300, zkh1300, zke1300, zkf1300, zka1500, zkb1500, zks1500, zkt1500, zkl1500, zkn1500, zkg1500, zkh1500, zke1500, zkf1500, zka1540, zkb1540, zks1540, zkt1540, zkl1540, zkn1540, zkg1540, zkh1540, zke1540, zkf1540, zka1604, zkb1604, zks1604, zkt1604, zkl1604, zkn1604, zkg1604, zkh1604, zke1604, zkf1604, zka1668, zkb1668, zks1668, zkt1668, zkl1668, zkn1668, zkg1668, zkh1668, zke1668, zkf1668, zka2000, zkb2000, zks2000, zkt2000, zkl2000, zkn2000, zkg2000, zkh2000, zke2000, zkf2000, zka4999, zkb4999, zks4999, zkt4999, zkl4999, zkn4999, zkg4999, zkh4999, zke4999, zkf4999, zka5000, zkb5000, zks5000, zkt5000, zkl5000, zkn5000, zkg5000, zkh5000, zke5000, zkf5000, zkm1, zn_add, zn_add1, zn_sub, zn_sub1, zn_mul, zn_lt, zn_le, zn_eq, zci, zcl, zcr, zcv, zrb0, zrb1, if_pos, if_neg, if_true, if_false, hv, hx]
  | succ m ih =>
    intro k a1 b n hk hn l2 l3 l4
    have ih' := fun l2 l3 l4 => ih (k + 1) 0 0 0 (by omega) (fun i hi hi' => hn i (by omega) hi') l2 l3 l4
    have hne := hn k (by omega) (by omega)
    rw [zg_M_put_20_e, if_neg (fun q => absurd ((zkh64 (by omega)).mp q) (by omega)), zo181, m_isFull X hg (by omega), zci]
    by_cases h : G k = zN
    · rw [if_pos h, if_pos rfl, zg_M_put_89_e, zn_add1, ih']
    · have hv : I 182 (1540 + k) = G k := ((hg k (by omega)).2 h).2
      rw [if_neg h, if_neg (by decide), zg_M_put_39_e]
      simp (disch := omega) only [zM_I, zM_J, zM_P, zM_wI, zM_wL, zrf, zo0, zo1, zo2, zo7, zo10, zo12, zo16, zo17, zo22, zo25, zo27, zo31, zo33, zo40, zo42, zo43, zo46, zo109, zo111, zo112, zo115, zo178, zo181, zp0_0, zp0_1, zp0_3, zp0_4, zp0_5, zp0_6, zp0_7, zp1_0, zp1_1, zp1_3, zp1_5, zp1_6, zp1_7, zp2_0, zp2_1, zp7_0, zp7_1, zp10_0, zp12_0, zp12_1, zp12_3, zp16_0, zp16_1, zp16_3, zp16_5, zp16_6, zp16_7, zp17_0, zp17_1, zp22_0, zp22_1, zp25_0, zp27_0, zp27_1, zp27_3, zp31_0, zp31_2, zp31_3, zp31_6, zp31_7, zp31_8, zp33_0, zp33_1, zp40_0, zp40_1, zp42_0, zp42_1, zp43_0, zp43_1, zp46_0, zp46_1, zp109_0, zp109_1, zp111_0, zp111_1, zp112_0, zp112_1, zp115_0, zp115_1, zp178_0, zp181_0, zp181_1, zp181_2, zp181_4, zp181_5, zp181_6, zp181_17, zp181_18, zp181_19, zp181_20, zp181_21, zp181_22, zp181_23, zp181_24, zp181_31, zp181_32, zx3, zx4, zx5, zx6, zx8, zx9, zx11, zx13, zx14, zx15, zx18, zx19, zx20, zx21, zx23, zx24, zx26, zx28, zx29, zx30, zx32, zx34, zx35, zx36, zx37, zx38, zx39, zx44, zx45, zx47, zx48, zx113, zx114, zx116, zx117, zx179, zx180, zx182, zx183, zx184, zx185, zx186, zx187, zx253, zx254, zx255, zx256, zx257, zx182, zw_0, zw_1, zw_2, zw_3, zw_4, zw_5, zw_6, zw_7, zw_8, zw_9, zw_10, zw_11, zw_12, zw_13, zw_14, zx6_0, zx6_1, zx6_2, zx6_3, zx6_4, zx6_5, zx6_6, zx6_7, zx21_0, zx21_1, zx21_2, zx21_3, zx21_4, zx21_5, zx21_6, zx21_7, zx36_0, zx36_1, zx36_2, zx36_3, zx36_4, zx36_5, zx36_6, zx36_7, zka0, zkb0, zks0, zkt0, zkl0, zkn0, zkg0, zkh0, zke0, zkf0, zka1, zkb1, zks1, zkt1, zkl1, zkn1, zkg1, zkh1, zke1, zkf1, zka2, zkb2, zks2, zkt2, zkl2, zkn2, zkg2, zkh2, zke2, zkf2, zka3, zkb3, zks3, zkt3, zkl3, zkn3, zkg3, zkh3, zke3, zkf3, zka4, zkb4, zks4, zkt4, zkl4, zkn4, zkg4, zkh4, zke4, zkf4, zka5, zkb5, zks5, zkt5, zkl5, zkn5, zkg5, zkh5, zke5, zkf5, zka6, zkb6, zks6, zkt6, zkl6, zkn6, zkg6, zkh6, zke6, zkf6, zka7, zkb7, zks7, zkt7, zkl7, zkn7, zkg7, zkh7, zke7, zkf7, zka8, zkb8, zks8, zkt8, zkl8, zkn8, zkg8, zkh8, zke8, zkf8, zka9, zkb9, zks9, zkt9, zkl9, zkn9, zkg9, zkh9, zke9, zkf9, zka10, zkb10, zks10, zkt10, zkl10, zkn10, zkg10, zkh10, zke10, zkf10, zka11, zkb11, zks11, zkt11, zkl11, zkn11, zkg11, zkh11, zke11, zkf11, zka12, zkb12, zks12, zkt12, zkl12, zkn12, zkg12, zkh12, zke12, zkf12, zka13, zkb13, zks13, zkt13, zkl13, zkn13, zkg13, zkh13, zke13, zkf13, zka14, zkb14, zks14, zkt14, zkl14, zkn14, zkg14, zkh14, zke14, zkf14, zka15, zkb15, zks15, zkt15, zkl15, zkn15, zkg15, zkh15, zke15, zkf15, zka16, zkb16, zks16, zkt16, zkl16, zkn16, zkg16, zkh16, zke16, zkf16, zka19, zkb19, zks19, zkt19, zkl19, zkn19, zkg19, zkh19, zke19, zkf19, zka20, zkb20, zks20, zkt20, zkl20, zkn20, zkg20, zkh20, zke20, zkf20, zka24, zkb24, zks24, zkt24, zkl24, zkn24, zkg24, zkh24, zke24, zkf24, zka27, zkb27, zks27, zkt27, zkl27, zkn27, zkg27, zkh27, zke27, zkf27, zka31, zkb31, zks31, zkt31, zkl31, zkn31, zkg31, zkh31, zke31, zkf31, zka32, zkb32, zks32, zkt32, zkl32, zkn32, zkg32, zkh32, zke32, zkf32, zka40, zkb40, zks40, zkt40, zkl40, zkn40, zkg40, zkh40, zke40, zkf40, zka48, zkb48, zks48, zkt48, zkl48, zkn48, zkg48, zkh48, zke48, zkf48, zka50, zkb50, zks50, zkt50, zkl50, zkn50, zkg50, zkh50, zke50, zkf50, zka60, zkb60, zks60, zkt60, zkl60, zkn60, zkg60, zkh60, zke60, zkf60, zka64, zkb64, zks64, zkt64, zkl64, zkn64, zkg64, zkh64, zke64, zkf64, zka99, zkb99, zks99, zkt99, zkl99, zkn99, zkg99, zkh99, zke99, zkf99, zka100, zkb100, zks100, zkt100, zkl100, zkn100, zkg100, zkh100, zke100, zkf100, zka300, zkb300, zks300, zkt300, zkl300, zkn300, zkg300, zkh300, zke300, zkf300, zka302, zkb302, zks302, zkt302, zkl302, zkn302, zkg302, zkh302, zke302, zkf302, zka320, zkb320, zks320, zkt320, zkl320, zkn320, zkg320, zkh320, zke320, zkf320, zka512, zkb512, zks512, zkt512, zkl512, zkn512, zkg512, zkh512, zke512, zkf512, zka599, zkb599, zks599, zkt599, zkl599, zkn599, zkg599, zkh599, zke599, zkf599, zka600, zkb600, zks600, zkt600, zkl600, zkn600, zkg600, zkh600, zke600, zkf600, zka601, zkb601, zks601, zkt601, zkl601, zkn601, zkg601, zkh601, zke601, zkf601, zka620, zkb620, zks620, zkt620, zkl620, zkn620, zkg620, zkh620, zke620, zkf620, zka920, zkb920, zks920, zkt920, zkl920, zkn920, zkg920, zkh920, zke920, zkf920, zka999, zkb999, zks999, zkt999, zkl999, zkn999, zkg999, zkh999, zke999, zkf999, zka1000, zkb1000, zks1000, zkt1000, zkl1000, zkn1000, zkg1000, zkh1000, zke1000, zkf1000, zka1024, zkb1024, zks1024, zkt1024, zkl1024, zkn1024, zkg1024, zkh1024, zke1024, zkf1024, zka1220, zkb1220, zks1220, zkt1220, zkl1220, zkn1220, zkg1220, zkh1220, zke1220, zkf1220, zka1260, zkb1260, zks1260, zkt1260, zkl1260, zkn1260, zkg1260, zkh1260, zke1260, zkf1260, zka1300, zkb1300, zks1300, zkt1300, zkl1300, zkn1300, zkg1300, zkh1300, zke1300, zkf1300, zka1500, zkb1500, zks1500, zkt1500, zkl1500, zkn1500, zkg1500, zkh1500, zke1500, zkf1500, zka1540, zkb1540, zks1540, zkt1540, zkl1540, zkn1540, zkg1540, zkh1540, zke1540, zkf1540, zka1604, zkb1604, zks1604, zkt1604, zkl1604, zkn1604, zkg1604, zkh1604, zke1604, zkf1604, zka1668, zkb1668, zks1668, zkt1668, zkl1668, zkn1668, zkg1668, zkh1668, zke1668, zkf1668, zka2000, zkb2000, zks2000, zkt2000, zkl2000, zkn2000, zkg2000, zkh2000, zke2000, zkf2000, zka4999, zkb4999, zks4999, zkt4999, zkl4999, zkn4999, zkg4999, zkh4999, zke4999, zkf4999, zka5000, zkb5000, zks5000, zkt5000, zkl5000, zkn5000, zkg5000, zkh5000, zke5000, zkf5000, zkm1, zn_add, zn_add1, zn_sub, zn_sub1, zn_mul, zn_lt, zn_le, zn_eq, zci, zcl, zcr, zcv, zrb0, zrb1, if_pos, if_neg, if_true, if_false, hv, zg_M_put_59_e]
      split
      · rw [zg_M_put_80_e]
        split <;> rw [zg_M_put_89_e, zn_add1, ih']
      · rw [zg_M_put_89_e, zn_add1, ih']
theorem m_put136 (hg : zMG (I 182) G) {a1 l : Nat} (ha : a1 ≤ 64) (hl : zlfG G a1 l) {l2 l3 : Int32} : ∀ m k, l + m = k → k ≤ a1 → zg_M_put_136 X 181 x l2 l3 (Int32.ofNat k - 1) (zM b0 I J) = zg_M_put_156 X 181 x l2 l3 (Int32.ofNat l - 1) (zM b0 I J) := by
  intro m
  induction m with
  | zero =>
    intro k hk hka
    have : k = l := by omega
    subst this
    rw [zg_M_put_136_e]
    rcases Nat.eq_zero_or_pos k with c | c
    · subst c
      rw [if_pos (by decide)]
    · have h : G (k - 1) = zN := by
        rcases hl.2.2 with q | q
        · omega
        · exact q
      rw [zn_sub1 c, if_neg (fun q => absurd ((zkl0 (by omega)).mp q) (by omega)), zo181, m_isFull X hg (by omega), zci, if_pos h, if_pos rfl]
  | succ m ih =>
    intro k hk hka
    have h : G (k - 1) ≠ zN := hl.2.1 _ (by omega) (by omega)
    rw [zg_M_put_136_e, zn_sub1 (by omega), if_neg (fun q => absurd ((zkl0 (by omega)).mp q) (by omega)), zo181, m_isFull X hg (by omega), zci, if_neg h, if_neg (by decide)]
    rw [← Int32.sub_eq_add_neg, ih (k - 1) (by omega) (by omega)]
theorem m_put159 (hg : zMG (I 182) G) {b r : Nat} (hr : zrtG G b r) {l2 l3 l5 : Int32} : ∀ m k, k + m = r → b ≤ k → zg_M_put_159 X 181 x l2 l3 l5 (Int32.ofNat k) (zM b0 I J) = zg_M_put_181 X 181 x l2 l3 l5 (Int32.ofNat r) (zM b0 I J) := by
  have hr64 := hr.2.1
  intro m
  induction m with
  | zero =>
    intro k hk hka
    have : k = r := by omega
    subst this
    rw [zg_M_put_159_e]
    rcases Nat.lt_or_ge k 64 with c | c
    · have h : G k = zN := by
        rcases hr.2.2.2 with q | q
        · omega
        · exact q
      rw [if_neg (fun q => absurd ((zkh64 (by omega)).mp q) (by omega)), zo181, m_isFull X hg (by omega), zci, if_pos h, if_pos rfl]
    · rw [if_pos ((zkh64 (by omega)).mpr c)]
  | succ m ih =>
    intro k hk hka
    have h : G k ≠ zN := hr.2.2.1 _ (by omega) (by omega)
    rw [zg_M_put_159_e, if_neg (fun q => absurd ((zkh64 (by omega)).mp q) (by omega)), zo181, m_isFull X hg (by omega), zci, if_neg h, if_neg (by decide), zn_add1, ih (k + 1) (by omega) (by omega)]
theorem zMG_eq {f : Nat → Int32} {G G' : Nat → Int32} (h : zMG f G) (e : ∀ c, c < 64 → G c = G' c) : zMG f G' := fun c hc => by
  rw [← e c hc]; exact h c hc
/-- the reference shifts to the left -/
theorem m_put232l {a1 l : Nat} (ha : a1 ≤ 64) (hl0 : 0 < l) (hl1 : l ≤ a1) (hx : x ≠ zN) (hf : ∀ i, l ≤ i → i < a1 → G i ≠ zN) {l3 l6 : Int32} : ∀ (m k : Nat) (I : zI), k + m = a1 - l → zMG (I 182) (fun i => if l ≤ i + 1 ∧ i + 1 < l + k then G (i + 1) else G i) → ∃ I', zg_M_put_232 X 181 x (Int32.ofNat (a1 - 1)) l3 (Int32.ofNat (l - 1)) l6 1 (Int32.ofNat (a1 - l)) (Int32.ofNat k) (zM b0 I J) = some (some (.int (Int32.ofNat (a1 - l))), zM b0 I' J) ∧ zMG (I' 182) (zshl G x a1 l) ∧ (∀ a, a ≠ 182 → I' a = I a) ∧ ∀ i, i < 1540 → I' 182 i = I 182 i := by
  intro m
  induction m with
  | zero =>
    intro k I hk hg
    obtain ⟨I1, e1, e2, e3, e4⟩ := m_fills X (b0 := b0) (J := J) (x := x) (c := a1 - 1) hg (by omega) hx
    refine ⟨I1, ?_, zMG_eq e2 (fun c hc => ?_), e3, e4⟩
    · rw [zg_M_put_232_e, if_pos ((zn_le (by omega) (by omega)).mpr (by omega)), zg_M_put_298_e, if_neg (by decide), zg_M_put_309_e, zo181, e1, zcv]
    · unfold zgu zshl
      grind
  | succ m ih =>
    intro k I hk hg
    have hfull : G (l + k) ≠ zN := hf _ (by omega) (by omega)
    have hv : I 182 (1540 + (l + k)) = G (l + k) := by
      have := ((hg (l + k) (by omega)).2 (by simp only; rw [if_neg (by omega)]; exact hfull)).2
      simp only at this
      rw [if_neg (by omega)] at this
      exact this
    obtain ⟨I1, e1, e2, e3, e4⟩ := m_fills X (b0 := b0) (J := J) (x := G (l + k)) (c := l - 1 + k) hg (by omega) hfull
    obtain ⟨I2, f1, f2, f3, f4⟩ := ih (k + 1) I1 (by omega) (zMG_eq e2 (fun c hc => by
      unfold zgu
      grind))
    refine ⟨I2, ?_, f2, fun a h => by rw [f3 a h, e3 a h], fun i hi => by rw [f4 i hi, e4 i hi]⟩
    rw [← f1, zg_M_put_232_e, if_neg (fun q => absurd ((zn_le (by omega) (by omega)).mp q) (by omega)), if_neg (by decide), zg_M_put_258_e, zo181, zM_P, zp181_0, zrf, if_neg (by decide), zg_M_put_287_e, zn_add, zn_add1, zka1540, zx182 (by omega), zo181, zM_I]
    rw [show 1540 + (l - 1 + k + 1) = 1540 + (l + k) by omega, hv, e1, zcv, zn_add1]
theorem m_put232r {b r : Nat} (hr : zrtG G b r) (hr0 : r < 64) (hx : x ≠ zN) {l2 l5 : Int32} : ∀ (m k : Nat) (I : zI), k + m = r - b → zMG (I 182) (fun i => if r < i + k ∧ i ≤ r then G (i - 1) else G i) → ∃ I', zg_M_put_232 X 181 x l2 (Int32.ofNat b) l5 (Int32.ofNat r) 0 (Int32.ofNat (r - b)) (Int32.ofNat k) (zM b0 I J) = some (some (.int (Int32.ofNat (r - b))), zM b0 I' J) ∧ zMG (I' 182) (zshr G x b r) ∧ (∀ a, a ≠ 182 → I' a = I a) ∧ ∀ i, i < 1540 → I' 182 i = I 182 i := by
  obtain ⟨hr1, hr2, hf, hr3⟩ := hr
  intro m
  induction m with
  | zero =>
    intro k I hk hg
    obtain ⟨I1, e1, e2, e3, e4⟩ := m_fills X (b0 := b0) (J := J) (x := x) (c := b) hg (by omega) hx
    refine ⟨I1, ?_, zMG_eq e2 (fun c hc => ?_), e3, e4⟩
    · rw [zg_M_put_232_e, if_pos ((zn_le (by omega) (by omega)).mpr (by omega)), zg_M_put_298_e, if_pos rfl, zg_M_put_308_e, zg_M_put_309_e, zo181, e1, zcv]
    · unfold zgu zshr
      grind
  | succ m ih =>
    intro k I hk hg
    have hfull : G (r - k - 1) ≠ zN := hf _ (by omega) (by omega)
    have hv : I 182 (1540 + (r - k - 1)) = G (r - k - 1) := by
      have := ((hg (r - k - 1) (by omega)).2 (by simp only; rw [if_neg (by omega)]; exact hfull)).2
      simp only at this
      rw [if_neg (by omega)] at this
      exact this
    obtain ⟨I1, e1, e2, e3, e4⟩ := m_fills X (b0 := b0) (J := J) (x := G (r - k - 1)) (c := r - k) hg (by omega) hfull
    obtain ⟨I2, f1, f2, f3, f4⟩ := ih (k + 1) I1 (by omega) (zMG_eq e2 (fun c hc => by
      unfold zgu
      grind))
    refine ⟨I2, ?_, f2, fun a h => by rw [f3 a h, e3 a h], fun i hi => by rw [f4 i hi, e4 i hi]⟩
    rw [← f1, zg_M_put_232_e, if_neg (fun q => absurd ((zn_le (by omega) (by omega)).mp q) (by omega)), if_pos rfl, zg_M_put_253_e, zg_M_put_258_e, zo181, zM_P, zp181_0, zrf, if_pos rfl, zg_M_put_280_e, zg_M_put_287_e, zn_sub (by omega), zn_sub1 (by omega), zka1540, zx182 (by omega), zo181, zM_I]
    rw [hv, e1, zcv, zn_add1]
/-- what put answers, and the cells behind it -/
def zputs (G : Nat → Int32) (x : Int32) (ans : Int32) (G' : Nat → Int32) : Prop :=
  ((∃ i, i < 64 ∧ G i = x) ∧ ans = -1 ∧ G' = G) ∨ ((∀ i, i < 64 → G i ≠ x) ∧ ∃ a1 b, zab G x 0 64 a1 b ∧ ((a1 < b ∧ ans = 0 ∧ G' = zgu G ((a1 + b - 1) / 2) x) ∨ (a1 = b ∧ ∃ l r, zlfG G a1 l ∧ zrtG G b r ∧ ((l = 0 ∧ r = 64 ∧ ans = -1 ∧ G' = G) ∨ (0 < l ∧ (r = 64 ∨ a1 - l ≤ r - b) ∧ ans = Int32.ofNat (a1 - l) ∧ G' = zshl G x a1 l) ∨ (r < 64 ∧ ¬ (0 < l ∧ a1 - l ≤ r - b) ∧ ans = Int32.ofNat (r - b) ∧ G' = zshr G x b r)))))
theorem zlfG_ex (G : Nat → Int32) : ∀ a1, ∃ l, zlfG G a1 l
  | 0 => ⟨0, Nat.le_refl _, fun i _ h => by omega, Or.inl rfl⟩
  | a1 + 1 => by
    by_cases h : G a1 = zN
    · exact ⟨a1 + 1, Nat.le_refl _, fun i h1 h2 => by omega, Or.inr (by simpa using h)⟩
    · obtain ⟨l, h1, h2, h3⟩ := zlfG_ex G a1
      refine ⟨l, by omega, fun i hi hi' => ?_, h3⟩
      rcases Nat.lt_or_ge i a1 with c | c
      · exact h2 i hi c
      · have : i = a1 := by omega
        rw [this]; exact h
theorem zrtG_ex (G : Nat → Int32) : ∀ m b, b + m = 64 → ∃ r, zrtG G b r
  | 0, b, hb => ⟨b, Nat.le_refl _, by omega, fun i h1 h2 => by omega, Or.inl (by omega)⟩
  | m + 1, b, hb => by
    by_cases h : G b = zN
    · exact ⟨b, Nat.le_refl _, by omega, fun i h1 h2 => by omega, Or.inr h⟩
    · obtain ⟨r, h1, h2, h3, h4⟩ := zrtG_ex G m (b + 1) (by omega)
      refine ⟨r, by omega, h2, fun i hi hi' => ?_, h4⟩
      rcases Nat.lt_or_ge b i with c | c
      · exact h3 i (by omega) hi'
      · have : i = b := by omega
        rw [this]; exact h
theorem m_put (hg : zMG (I 182) G) (hs : zgs G) (hx : ¬ (x < -999999999 ∨ 999999999 < x)) (hxN : x ≠ zN) : ∃ I' ans G', zputs G x ans G' ∧ zg_M_put_0 X 181 x (zM b0 I J) = some (some (.int ans), zM b0 I' J) ∧ zMG (I' 182) G' ∧ (∀ a, a ≠ 182 → I' a = I a) ∧ ∀ i, i < 1540 → I' 182 i = I 182 i := by
  rw [zg_M_put_0_e, m_isNumber, zci, if_neg hx, if_neg (by decide), zg_M_put_9_e]
  rcases Classical.em (∃ i, i < 64 ∧ G i = x) with hex | hex
  · refine ⟨I, -1, G, Or.inl ⟨hex, rfl, rfl⟩, ?_, hg, fun a _ => rfl, fun i _ => rfl⟩
    have : ∃ c, c < 64 ∧ G c = x ∧ ∀ i, i < c → G i ≠ x := by
      obtain ⟨i, hi, he⟩ := hex
      induction i using Nat.strongRecOn with
      | _ i ih =>
        rcases Classical.em (∃ j, j < i ∧ G j = x) with ⟨j, hj, he'⟩ | hno
        · exact ih j hj (by omega) he'
        · exact ⟨i, hi, he, fun j hj he' => hno ⟨j, hj, he'⟩⟩
    obtain ⟨c, hc, he, hb⟩ := this
    exact m_put_same X hg hc he hxN c 0 0 0 0 (by omega) (fun i _ hi => hb i hi) _ _ _
  · have hn : ∀ i, i < 64 → G i ≠ x := fun i hi he => hex ⟨i, hi, he⟩
    obtain ⟨a1, b, n, p1, p2, p3, p4⟩ := m_put20 X (b0 := b0) (J := J) hg hxN hn 64 0 0 64 0 (by omega) ⟨fun i h1 h2 => by omega, Or.inl rfl, fun i h1 h2 => by omega, Or.inl rfl⟩ (Nat.le_refl _) ⟨fun _ i hi => by omega, fun _ => rfl⟩
    have hab := zab_le hs p1
    have ha64 : a1 ≤ 64 := by rcases p1.2.1 with q | q <;> omega
    have hb64 : b ≤ 64 := by rcases p1.2.2.2 with q | q <;> omega
    have e0 : zg_M_put_20 X 181 x (-1) 64 0 0 (zM b0 I J) = zg_M_put_95 X 181 x (Int32.ofNat a1 - 1) (Int32.ofNat b) (Int32.ofNat n) (zM b0 I J) := p4
    rw [e0, zg_M_put_95_e]
    rcases Nat.lt_or_ge a1 b with c | c
    · have hnn : n ≠ 64 := fun q => p3.mp q a1 (by omega) (zab_mid p1 hn (Nat.le_refl _) c (by omega))
      have hsub : ¬ (Int32.ofNat b - (Int32.ofNat a1 - 1) ≤ 1) ∧ 0 ≤ (Int32.ofNat a1 - 1) + Int32.ofNat b ∧ ((Int32.ofNat a1 - 1) + Int32.ofNat b) / 2 = Int32.ofNat ((a1 + b - 1) / 2) := by
        rcases Nat.eq_zero_or_pos a1 with d | d
        · subst d
          have e1 : Int32.ofNat b - (Int32.ofNat 0 - 1) = Int32.ofNat (b + 1) := by
            rw [← zn_add1]
            show Int32.ofNat b - (0 - 1) = _
            rw [Int32.sub_eq_add_neg]; rfl
          have e2 : (Int32.ofNat 0 - 1) + Int32.ofNat b = Int32.ofNat (b - 1) := by
            rw [show Int32.ofNat 0 - 1 = (-1 : Int32) by decide, Int32.add_comm, ← Int32.sub_eq_add_neg, zn_sub1 (by omega)]
          rw [e1, e2]
          refine ⟨fun q => absurd ((zkn1 (by omega)).mp q) (by omega), (zkh0 (by omega)).mpr (by omega), ?_⟩
          rw [zkd2 (by omega), Nat.zero_add]
        · rw [zn_sub1 d, zn_sub (by omega), zn_add]
          refine ⟨fun q => absurd ((zkn1 (by omega)).mp q) (by omega), (zkh0 (by omega)).mpr (by omega), ?_⟩
          rw [zkd2 (by omega)]
          congr 2
          omega
      obtain ⟨I1, e1, e2, e3, e4⟩ := m_fills X (b0 := b0) (J := J) (x := x) (c := (a1 + b - 1) / 2) hg (by omega) hxN
      refine ⟨I1, 0, _, Or.inr ⟨hn, a1, b, p1, Or.inl ⟨c, rfl, rfl⟩⟩, ?_, e2, e3, e4⟩
      rw [if_neg (fun q => hnn ((zke64 (by omega)).mp q)), zg_M_put_104_e, if_neg hsub.1, if_pos hsub.2.1, zg_M_put_122_e, if_neg (by decide), hsub.2.2, zg_M_put_127_e, zo181, e1, zcv]
    · have hab : a1 = b := by omega
      subst hab
      obtain ⟨l, hl⟩ := zlfG_ex G a1
      obtain ⟨r, hr⟩ := zrtG_ex G (64 - a1) a1 (by omega)
      have hfull : (l = 0 ∧ r = 64) ↔ n = 64 := by
        rw [p3]
        constructor
        · rintro ⟨rfl, rfl⟩ i hi
          rcases Nat.lt_or_ge i a1 with d | d
          · exact hl.2.1 i (by omega) d
          · exact hr.2.2.1 i d hi
        · intro q
          constructor
          · rcases hl.2.2 with d | d
            · exact d
            · have h0 := hl.1
              rcases Nat.eq_zero_or_pos l with e | e
              · exact e
              · exact absurd d (q _ (by omega))
          · rcases hr.2.2.2 with d | d
            · exact d
            · have h0 := hr.2.1
              rcases Nat.lt_or_ge r 64 with e | e
              · exact absurd d (q _ e)
              · omega
      by_cases hlr : l = 0 ∧ r = 64
      · refine ⟨I, -1, G, Or.inr ⟨hn, a1, a1, p1, Or.inr ⟨rfl, l, r, hl, hr, Or.inl ⟨hlr.1, hlr.2, rfl, rfl⟩⟩⟩, ?_, hg, fun a _ => rfl, fun i _ => rfl⟩
        rw [if_pos ((zke64 (by omega)).mpr (hfull.mp hlr))]
      · have hnn : n ≠ 64 := fun q => hlr (hfull.mpr q)
        have hla := hl.1
        have hra := hr.1
        have hr64 := hr.2.1
        have hsub : (Int32.ofNat a1 - (Int32.ofNat a1 - 1) ≤ 1) := by
          rcases Nat.eq_zero_or_pos a1 with d | d
          · subst d; decide
          · rw [zn_sub1 d, zn_sub (by omega)]
            exact (zkn1 (by omega)).mpr (by omega)
        have eq0 : zg_M_put_20 X 181 x (-1) 64 0 0 (zM b0 I J) = zg_M_put_181 X 181 x (Int32.ofNat a1 - 1) (Int32.ofNat a1) (Int32.ofNat l - 1) (Int32.ofNat r) (zM b0 I J) := by
          rw [e0, zg_M_put_95_e, if_neg (fun q => hnn ((zke64 (by omega)).mp q)), zg_M_put_104_e, if_pos hsub, zg_M_put_133_e, m_put136 X hg ha64 hl (a1 - l) a1 (by omega) (Nat.le_refl _), zg_M_put_156_e, m_put159 X hg hr (r - a1) a1 (by omega) (Nat.le_refl _)]
        rw [← zg_M_put_95_e, ← e0, eq0, zg_M_put_181_e]
        by_cases hc : 0 < l ∧ (r = 64 ∨ a1 - l ≤ r - a1)
        · obtain ⟨I1, e1, e2, e3, e4⟩ := m_put232l X (b0 := b0) (J := J) (x := x) (l3 := Int32.ofNat a1) (l6 := Int32.ofNat r) ha64 hc.1 hla hxN hl.2.1 (a1 - l) 0 I (by omega) (zMG_eq hg (fun c hc => by rw [if_neg (by omega)]))
          refine ⟨I1, _, _, Or.inr ⟨hn, a1, a1, p1, Or.inr ⟨rfl, l, r, hl, hr, Or.inr (Or.inl ⟨hc.1, hc.2, rfl, rfl⟩)⟩⟩, ?_, e2, e3, e4⟩
          have e9 : zg_M_put_204 X 181 x (Int32.ofNat (a1 - 1)) (Int32.ofNat a1) (Int32.ofNat (l - 1)) (Int32.ofNat r) (zM b0 I J) = some (some (.int (Int32.ofNat (a1 - l))), zM b0 I1 J) := by
            rw [zg_M_put_204_e, zg_M_put_209_e, if_neg (by decide), zg_M_put_227_e, zn_sub (by omega), show a1 - 1 - (l - 1) = a1 - l by omega]
            exact e1
          rw [zn_sub1 (by omega), zn_sub1 (by omega), if_neg (fun q => absurd ((zkl0 (by omega)).mp q) (by omega))]
          by_cases h64 : r = 64
          · rw [if_pos ((zke64 (by omega)).mpr h64), e9]
          · rw [if_neg (fun q => h64 ((zke64 (by omega)).mp q)), zn_sub (by omega), zn_sub (by omega), if_neg (fun q => absurd ((zn_lt (by omega) (by omega)).mp q) (by omega)), e9]
        · have hr0 : r < 64 := by omega
          obtain ⟨I1, e1, e2, e3, e4⟩ := m_put232r X (b0 := b0) (J := J) (x := x) (l2 := Int32.ofNat a1 - 1) (l5 := Int32.ofNat l - 1) hr hr0 hxN (r - a1) 0 I (by omega) (zMG_eq hg (fun c hc => by rw [if_neg (by omega)]))
          refine ⟨I1, _, _, Or.inr ⟨hn, a1, a1, p1, Or.inr ⟨rfl, l, r, hl, hr, Or.inr (Or.inr ⟨hr0, by omega, rfl, rfl⟩)⟩⟩, ?_, e2, e3, e4⟩
          have e9 : zg_M_put_208 X 181 x (Int32.ofNat a1 - 1) (Int32.ofNat a1) (Int32.ofNat l - 1) (Int32.ofNat r) (zM b0 I J) = some (some (.int (Int32.ofNat (r - a1))), zM b0 I1 J) := by
            rw [zg_M_put_208_e, zg_M_put_209_e, if_pos rfl, zg_M_put_223_e, zg_M_put_227_e, zn_sub (by omega)]
            exact e1
          rcases Nat.eq_zero_or_pos l with d | d
          · subst d
            rw [if_pos (by decide), e9]
          · have h4 : ¬ Int32.ofNat l - 1 < 0 := by
              rw [zn_sub1 d]; exact fun q => absurd ((zkl0 (by omega)).mp q) (by omega)
            have h5 : Int32.ofNat r - Int32.ofNat a1 < Int32.ofNat a1 - 1 - (Int32.ofNat l - 1) := by
              rw [zn_sub1 d, zn_sub1 (by omega), zn_sub (by omega), zn_sub (by omega)]
              exact (zn_lt (by omega) (by omega)).mpr (by omega)
            rw [if_neg h4, if_neg (fun q => absurd ((zke64 (by omega)).mp q) (by omega)), if_pos h5, e9]
end ZGM
