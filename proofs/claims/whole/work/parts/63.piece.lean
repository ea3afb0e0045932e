/-! pieces and guesses -/
noncomputable def zpcF (f : Nat → Int) (n e u l k : Nat) (w : Int32) : Int32 := if w = 0 then Int32.ofNat (zF (zTf f n e u l) (zTn f n e u l) (zel e u l) k) else if w = 1 then Int32.ofNat (zF (zTf f n e u l) (zTn f n e u l) (zel e u l) (k + 1) - 1) else if w = 2 then Int32.ofInt (zPk (zTf f n e u l) (zTn f n e u l) (zel e u l) k) else if w = 3 then Int32.ofInt (zQk (zTf f n e u l) (zTn f n e u l) (zel e u l) k) else if w = 4 then Int32.ofInt (zTf f n e u l (zF (zTf f n e u l) (zTn f n e u l) (zel e u l) k)) else zN
def zIsP (f : Nat → Int) (n e u H : Nat) (l1 l2 : Int32) : Prop := ∃ l k, l < H ∧ k < zTn f n e u (l + 1) ∧ l1 = Int32.ofNat l ∧ l2 = Int32.ofNat k
section ZPI
variable (X : zv_X) {b : Bool}
theorem zsw_GP0 (l0 p4 : Nat) (l1 l2 : Int32) (M : zv_M) : zv_sw [60, 68, 75, 83, 91] ((0 : Int32).toInt - 0).toNat (fun l => zR X (zv_jmp 95 l [some (.ref l0), some (.int l1), some (.int l2), some (.int 0), some (.ref p4)] [] M)) = zg_GP_piece_60 X l2 p4 M := rfl
theorem zsw_GP1 (l0 p4 : Nat) (l1 l2 : Int32) (M : zv_M) : zv_sw [60, 68, 75, 83, 91] ((1 : Int32).toInt - 0).toNat (fun l => zR X (zv_jmp 95 l [some (.ref l0), some (.int l1), some (.int l2), some (.int 1), some (.ref p4)] [] M)) = zg_GP_piece_68 X l2 p4 M := rfl
theorem zsw_GP2 (l0 p4 : Nat) (l1 l2 : Int32) (M : zv_M) : zv_sw [60, 68, 75, 83, 91] ((2 : Int32).toInt - 0).toNat (fun l => zR X (zv_jmp 95 l [some (.ref l0), some (.int l1), some (.int l2), some (.int 2), some (.ref p4)] [] M)) = zg_GP_piece_75 X l2 p4 M := rfl
theorem zsw_GP3 (l0 p4 : Nat) (l1 l2 : Int32) (M : zv_M) : zv_sw [60, 68, 75, 83, 91] ((3 : Int32).toInt - 0).toNat (fun l => zR X (zv_jmp 95 l [some (.ref l0), some (.int l1), some (.int l2), some (.int 3), some (.ref p4)] [] M)) = zg_GP_piece_83 X l2 p4 M := rfl
theorem zsw_GP4 (l0 p4 : Nat) (l1 l2 : Int32) (M : zv_M) : zv_sw [60, 68, 75, 83, 91] ((4 : Int32).toInt - 0).toNat (fun l => zR X (zv_jmp 95 l [some (.ref l0), some (.int l1), some (.int l2), some (.int 4), some (.ref p4)] [] M)) = zg_GP_piece_91 X l2 p4 M := rfl
theorem zsw_M0 (l0 : Nat) (l1 l2 : Int32) (M : zv_M) : zv_sw [56, 65, 74, 84, 94] ((0 : Int32).toInt - 0).toNat (fun l => zR X (zv_jmp 166 l [some (.ref l0), some (.int l1), some (.int l2), some (.int 0)] [] M)) = zg_M_piece_56 X l0 l1 l2 M := rfl
theorem zsw_M1 (l0 : Nat) (l1 l2 : Int32) (M : zv_M) : zv_sw [56, 65, 74, 84, 94] ((1 : Int32).toInt - 0).toNat (fun l => zR X (zv_jmp 166 l [some (.ref l0), some (.int l1), some (.int l2), some (.int 1)] [] M)) = zg_M_piece_65 X l0 l1 l2 M := rfl
theorem zsw_M2 (l0 : Nat) (l1 l2 : Int32) (M : zv_M) : zv_sw [56, 65, 74, 84, 94] ((2 : Int32).toInt - 0).toNat (fun l => zR X (zv_jmp 166 l [some (.ref l0), some (.int l1), some (.int l2), some (.int 2)] [] M)) = zg_M_piece_74 X l0 l1 l2 M := rfl
theorem zsw_M3 (l0 : Nat) (l1 l2 : Int32) (M : zv_M) : zv_sw [56, 65, 74, 84, 94] ((3 : Int32).toInt - 0).toNat (fun l => zR X (zv_jmp 166 l [some (.ref l0), some (.int l1), some (.int l2), some (.int 3)] [] M)) = zg_M_piece_84 X l0 l1 l2 M := rfl
theorem zsw_M4 (l0 : Nat) (l1 l2 : Int32) (M : zv_M) : zv_sw [56, 65, 74, 84, 94] ((4 : Int32).toInt - 0).toNat (fun l => zR X (zv_jmp 166 l [some (.ref l0), some (.int l1), some (.int l2), some (.int 4)] [] M)) = zg_M_piece_94 X l0 l1 l2 M := rfl
theorem zofI {v : Int32} {z : Int} (h : v.toInt = z) : v = Int32.ofInt z := by rw [← h, Int32.ofInt_toInt]
theorem c_isPiece1 {I : zI} {J : zJ} {n e u H : Nat} {f : Nat → Int} {l k : Nat} (hu : zupto f n) (hn : n ≤ 300) (hC : zCov I J 40 f n e u H) (hl : l < H) (hk : k < zTn f n e u (l + 1)) : zg_GP_isPiece_0 X 0 (Int32.ofNat l) (Int32.ofNat k) (zM b I J) = some (some (.int 1), zM b I J) := by
  have hH9 := zHt_9 hu hn hC.2.1
  have h300 := zT_300 (e := e) (u := u) hu hn (l := l + 1) (by omega)
  have lk := fun (k : Nat → Option (Option Value × zv_M)) => (show zv_iq (zM b I J) 41 (Int32.ofNat l) (fun j => zv_rf (zP b 41 j) k) = k (49 + 6 * l) from zcvlev (I := I) (J := J) (l := l) (k := k) (zCvS_40 b) (by omega))
  have hp : I (49 + 6 * l) 3 = Int32.ofNat (zTn f n e u (l + 1)) := by rw [zTn_s]; exact (hC.2.2.2 l hl).2.2.1
  have hs : zLs b (49 + 6 * l) (zcap l) := ((zCvS_40 b).2.2.2.2.1 l (by omega)).2
  simp (disch := omega) only [zg_GP_isPiece_0_e, zM_I, zM_J, zM_P, zM_wI, zM_wL, zrf, zo0, zo1, zo2, zo7, zo10, zo12, zo16, zo17, zo22, zo25, zo27, zo31, zo33, zo40, zo42, zo43, zo46, zo109, zo111, zo112, zo115, zo178, zo181, zp0_0, zp0_1, zp0_3, zp0_4, zp0_5, zp0_6, zp0_7, zp1_0, zp1_1, zp1_3, zp1_5, zp1_6, zp1_7, zp2_0, zp2_1, zp7_0, zp7_1, zp10_0, zp12_0, zp12_1, zp12_3, zp16_0, zp16_1, zp16_3, zp16_5, zp16_6, zp16_7, zp17_0, zp17_1, zp22_0, zp22_1, zp25_0, zp27_0, zp27_1, zp27_3, zp31_0, zp31_2, zp31_3, zp31_6, zp31_7, zp31_8, zp33_0, zp33_1, zp40_0, zp40_1, zp42_0, zp42_1, zp43_0, zp43_1, zp46_0, zp46_1, zp109_0, zp109_1, zp111_0, zp111_1, zp112_0, zp112_1, zp115_0, zp115_1, zp178_0, zp181_0, zp181_1, zp181_2, zp181_4, zp181_5, zp181_6, zp181_17, zp181_18, zp181_19, zp181_20, zp181_21, zp181_22, zp181_23, zp181_24, zp181_31, zp181_32, zx3, zx4, zx5, zx6, zx8, zx9, zx11, zx13, zx14, zx15, zx18, zx19, zx20, zx21, zx23, zx24, zx26, zx28, zx29, zx30, zx32, zx34, zx35, zx36, zx37, zx38, zx39, zx44, zx45, zx47, zx48, zx113, zx114, zx116, zx117, zx179, zx180, zx182, zx183, zx184, zx185, zx186, zx187, zx253, zx254, zx255, zx256, zx257, zx182, zw_0, zw_1, zw_2, zw_3, zw_4, zw_5, zw_6, zw_7, zw_8, zw_9, zw_10, zw_11, zw_12, zw_13, zw_14, zx6_0, zx6_1, zx6_2, zx6_3, zx6_4, zx6_5, zx6_6, zx6_7, zx21_0, zx21_1, zx21_2, zx21_3, zx21_4, zx21_5, zx21_6, zx21_7, zx36_0, zx36_1, zx36_2, zx36_3, zx36_4, zx36_5, zx36_6, zx36_7, zka0, zkb0, zks0, zkt0, zkl0, zkn0, zkg0, zkh0, zke0, zkf0, zka1, zkb1, zks1, zkt1, zkl1, zkn1, zkg1, zkh1, zke1, zkf1, zka2, zkb2, zks2, zkt2, zkl2, zkn2, zkg2, zkh2, zke2, zkf2, zka3, zkb3, zks3, zkt3, zkl3, zkn3, zkg3, zkh3, zke3, zkf3, zka4, zkb4, zks4, zkt4, zkl4, zkn4, zkg4, zkh4, zke4, zkf4, zka5, zkb5, zks5, zkt5, zkl5, zkn5, zkg5, zkh5, zke5, zkf5, zka6, zkb6, zks6, zkt6, zkl6, zkn6, zkg6, zkh6, zke6, zkf6, zka7, zkb7, zks7, zkt7, zkl7, zkn7, zkg7, zkh7, zke7, zkf7, zka8, zkb8, zks8, zkt8, zkl8, zkn8, zkg8, zkh8, zke8, zkf8, zka9, zkb9, zks9, zkt9, zkl9, zkn9, zkg9, zkh9, zke9, zkf9, zka10, zkb10, zks10, zkt10, zkl10, zkn10, zkg10, zkh10, zke10, zkf10, zka11, zkb11, zks11, zkt11, zkl11, zkn11, zkg11, zkh11, zke11, zkf11, zka12, zkb12, zks12, zkt12, zkl12, zkn12, zkg12, zkh12, zke12, zkf12, zka13, zkb13, zks13, zkt13, zkl13, zkn13, zkg13, zkh13, zke13, zkf13, zka14, zkb14, zks14, zkt14, zkl14, zkn14, zkg14, zkh14, zke14, zkf14, zka15, zkb15, zks15, zkt15, zkl15, zkn15, zkg15, zkh15, zke15, zkf15, zka16, zkb16, zks16, zkt16, zkl16, zkn16, zkg16, zkh16, zke16, zkf16, zka19, zkb19, zks19, zkt19, zkl19, zkn19, zkg19, zkh19, zke19, zkf19, zka20, zkb20, zks20, zkt20, zkl20, zkn20, zkg20, zkh20, zke20, zkf20, zka24, zkb24, zks24, zkt24, zkl24, zkn24, zkg24, zkh24, zke24, zkf24, zka27, zkb27, zks27, zkt27, zkl27, zkn27, zkg27, zkh27, zke27, zkf27, zka31, zkb31, zks31, zkt31, zkl31, zkn31, zkg31, zkh31, zke31, zkf31, zka32, zkb32, zks32, zkt32, zkl32, zkn32, zkg32, zkh32, zke32, zkf32, zka40, zkb40, zks40, zkt40, zkl40, zkn40, zkg40, zkh40, zke40, zkf40, zka48, zkb48, zks48, zkt48, zkl48, zkn48, zkg48, zkh48, zke48, zkf48, zka50, zkb50, zks50, zkt50, zkl50, zkn50, zkg50, zkh50, zke50, zkf50, zka60, zkb60, zks60, zkt60, zkl60, zkn60, zkg60, zkh60, zke60, zkf60, zka64, zkb64, zks64, zkt64, zkl64, zkn64, zkg64, zkh64, zke64, zkf64, zka99, zkb99, zks99, zkt99, zkl99, zkn99, zkg99, zkh99, zke99, zkf99, zka100, zkb100, zks100, zkt100, zkl100, zkn100, zkg100, zkh100, zke100, zkf100, zka300, zkb300, zks300, zkt300, zkl300, zkn300, zkg300, zkh300, zke300, zkf300, zka302, zkb302, zks302, zkt302, zkl302, zkn302, zkg302, zkh302, zke302, zkf302, zka320, zkb320, zks320, zkt320, zkl320, zkn320, zkg320, zkh320, zke320, zkf320, zka512, zkb512, zks512, zkt512, zkl512, zkn512, zkg512, zkh512, zke512, zkf512, zka599, zkb599, zks599, zkt599, zkl599, zkn599, zkg599, zkh599, zke599, zkf599, zka600, zkb600, zks600, zkt600, zkl600, zkn600, zkg600, zkh600, zke600, zkf600, zka601, zkb601, zks601, zkt601, zkl601, zkn601, zkg601, zkh601, zke601, zkf601, zka620, zkb620, zks620, zkt620, zkl620, zkn620, zkg620, zkh620, zke620, zkf620, zka920, zkb920, zks920, zkt920, zkl920, zkn920, zkg920, zkh920, zke920, zkf920, zka999, zkb999, zks999, zkt999, zkl999, zkn999, zkg999, zkh999, zke999, zkf999, zka1000, zkb1000, zks1000, zkt1000, zkl1000, zkn1000, zkg1000, zkh1000, zke1000, zkf1000, zka1024, zkb1024, zks1024, zkt1024, zkl1024, zkn1024, zkg1024, zkh1024, zke1024, zkf1024, zka1220, zkb1220, zks1220, zkt1220, zkl1220, zkn1220, zkg1220, zkh1220, zke1220, zkf1220, zka1260, zkb1260, zks1260, zkt1260, zkl1260, zkn1260, zkg1260, zkh1260, zke1260, zkf1260, zka1300, zkb1300, zks1300, zkt1300, zkl1300, zkn1300, zkg1300, zkh1300, zke1300, zkf1300, zka1500, zkb1500, zks1500, zkt1500, zkl1500, zkn1500, zkg1500, zkh1500, zke1500, zkf1500, zka1540, zkb1540, zks1540, zkt1540, zkl1540, zkn1540, zkg1540, zkh1540, zke1540, zkf1540, zka1604, zkb1604, zks1604, zkt1604, zkl1604, zkn1604, zkg1604, zkh1604, zke1604, zkf1604, zka1668, zkb1668, zks1668, zkt1668, zkl1668, zkn1668, zkg1668, zkh1668, zke1668, zkf1668, zka2000, zkb2000, zks2000, zkt2000, zkl2000, zkn2000, zkg2000, zkh2000, zke2000, zkf2000, zka4999, zkb4999, zks4999, zkt4999, zkl4999, zkn4999, zkg4999, zkh4999, zke4999, zkf4999, zka5000, zkb5000, zks5000, zkt5000, zkl5000, zkn5000, zkg5000, zkh5000, zke5000, zkf5000, zkm1, zn_add, zn_add1, zn_sub, zn_sub1, zn_mul, zn_lt, zn_le, zn_eq, zci, zcl, zcr, zcv, zrb0, zrb1, if_pos, if_neg, if_true, if_false, hC.1, lk, zob hs.1, hp, zg_GP_isPiece_40_e]
theorem c_isPiece0 {I : zI} {J : zJ} {n e u H : Nat} {f : Nat → Int} {l1 l2 : Int32} (hu : zupto f n) (hn : n ≤ 300) (hC : zCov I J 40 f n e u H) (h : ¬ zIsP f n e u H l1 l2) : zg_GP_isPiece_0 X 0 l1 l2 (zM b I J) = some (some (.int 0), zM b I J) := by
  have hH9 := zHt_9 hu hn hC.2.1
  rw [zg_GP_isPiece_0_e, zg_GP_isPiece_39_e, zg_GP_isPiece_40_e, zrb0]
  by_cases c1 : l1 < 0
  · rw [if_pos c1]
  · obtain ⟨l, hl, rfl, -⟩ := zidx c1
    rw [if_neg c1, zo0, zM_P, zp0_4, zrf, zo40, zM_I, hC.1]
    by_cases c2 : l < H
    · rw [if_neg (fun q => absurd ((zn_le (by omega) (by omega)).mp q) (by omega))]
      by_cases c3 : l2 < 0
      · rw [if_pos c3]
      · obtain ⟨k, hk, rfl, -⟩ := zidx c3
        have h300 := zT_300 (e := e) (u := u) hu hn (l := l + 1) (by omega)
        have hp : I (49 + 6 * l) 3 = Int32.ofNat (zTn f n e u (l + 1)) := by rw [zTn_s]; exact (hC.2.2.2 l c2).2.2.1
        have hs : zLs b (49 + 6 * l) (zcap l) := ((zCvS_40 b).2.2.2.2.1 l (by omega)).2
        have lk := fun (k : Nat → Option (Option Value × zv_M)) => (show zv_iq (zM b I J) 41 (Int32.ofNat l) (fun j => zv_rf (zP b 41 j) k) = k (49 + 6 * l) from zcvlev (I := I) (J := J) (l := l) (k := k) (zCvS_40 b) (by omega))
        rw [if_neg c3, zo0, zrf, zo40, zp40_0, zrf, lk, zob hs.1, hp, if_pos]
        rcases Nat.lt_or_ge k (zTn f n e u (l + 1)) with d | d
        · exact absurd ⟨l, k, c2, d, rfl, rfl⟩ h
        · exact (zn_le (by omega) hk).mpr d
    · rw [if_pos ((zn_le (by omega) hl).mpr (by omega))]
theorem m_isPiece1 {I : zI} {J : zJ} {n e u H : Nat} {f : Nat → Int} {l k : Nat} (hu : zupto f n) (hn : n ≤ 300) (hC : zMCov I J f n e u H) (hl : l < H) (hk : k < zTn f n e u (l + 1)) : zg_M_isPiece_0 X 181 (Int32.ofNat l) (Int32.ofNat k) (zM b I J) = some (some (.int 1), zM b I J) := by
  have hH9 := zHt_9 hu hn hC.2.1
  have h300 := zT_300 (e := e) (u := u) hu hn (l := l + 1) (by omega)
  have hp : I 254 l = Int32.ofNat (zTn f n e u (l + 1)) := by rw [zTn_s]; exact (hC.2.2.2 l hl).2.2.1
  have a1 : ¬ (Int32.ofNat l < 0 ∨ Int32.ofNat (H - 1) < Int32.ofNat l) := by
    rw [zkl0 (by omega), zn_lt (by omega) (by omega)]; omega
  have a2 : ¬ (Int32.ofNat k < 0 ∨ Int32.ofNat (zTn f n e u (l + 1) - 1) < Int32.ofNat k) := by
    rw [zkl0 (by omega), zn_lt (by omega) (by omega)]; omega
  rw [zg_M_isPiece_0_e, zo181, zM_I, hC.1, zn_sub1 (by omega), m_isIn, zci, zif01, if_neg a1, zo181, zM_P, zp181_23, zrf, zx254 (by omega), zM_I, hp, zn_sub1 (by omega), m_isIn, zci, zif01, if_neg a2, zg_M_isPiece_35_e, zrb1]
theorem m_isPiece0 {I : zI} {J : zJ} {n e u H : Nat} {f : Nat → Int} {l1 l2 : Int32} (hu : zupto f n) (hn : n ≤ 300) (hC : zMCov I J f n e u H) (h : ¬ zIsP f n e u H l1 l2) : zg_M_isPiece_0 X 181 l1 l2 (zM b I J) = some (some (.int 0), zM b I J) := by
  have hH9 := zHt_9 hu hn hC.2.1
  have e1 : (1 : Int32).toInt = 1 := rfl
  have e0 : (0 : Int32).toInt = 0 := rfl
  have sub : ∀ m : Nat, m ≤ 300 → (Int32.ofNat m - 1).toInt = (m : Int) - 1 := fun m hm => by
    rw [zi_sub (by rw [zn_int (by omega), e1]; omega) (by rw [zn_int (by omega), e1]; omega), zn_int (by omega), e1]
  rw [zg_M_isPiece_0_e, zo181, zM_I, hC.1, m_isIn, zci, zif01, zg_M_isPiece_34_e, zg_M_isPiece_35_e, zrb0]
  by_cases c1 : l1 < 0 ∨ Int32.ofNat H - 1 < l1
  · rw [if_pos c1]
  · rw [if_neg c1]
    obtain ⟨l, hl, rfl, -⟩ := zidx (i := l1) (fun q => c1 (Or.inl q))
    have hlH : l < H := by
      rcases Nat.lt_or_ge l H with d | d
      · exact d
      · exact absurd (Or.inr (by rw [zi_lt, sub H (by omega), zn_int hl]; omega)) c1
    have h300 := zT_300 (e := e) (u := u) hu hn (l := l + 1) (by omega)
    have hp : I 254 l = Int32.ofNat (zTn f n e u (l + 1)) := by rw [zTn_s]; exact (hC.2.2.2 l hlH).2.2.1
    have hc2 : l2 < 0 ∨ Int32.ofNat (zTn f n e u (l + 1)) - 1 < l2 := by
      rcases Classical.em (l2 < 0) with c3 | c3
      · exact Or.inl c3
      · obtain ⟨k, hk, rfl, -⟩ := zidx c3
        refine Or.inr ?_
        rw [zi_lt, sub _ h300, zn_int hk]
        rcases Nat.lt_or_ge k (zTn f n e u (l + 1)) with d | d
        · exact absurd ⟨l, k, hlH, d, rfl, rfl⟩ h
        · omega
    rw [zo181, zM_P, zp181_23, zrf, zx254 (by omega), zM_I, hp, m_isIn, zci, zif01, if_pos hc2, zg_M_isPiece_34_e, zg_M_isPiece_35_e, zrb0]
theorem zw04 {w : Int32} : (w = 0 ∨ w = 1 ∨ w = 2 ∨ w = 3 ∨ w = 4) ∨ (w.toInt < 0 ∨ 4 < w.toInt) := by
  rcases (by omega : w.toInt = 0 ∨ w.toInt = 1 ∨ w.toInt = 2 ∨ w.toInt = 3 ∨ w.toInt = 4 ∨ w.toInt < 0 ∨ 4 < w.toInt) with h | h | h | h | h | h | h
  · exact Or.inl (Or.inl (zi_eq.mpr h))
  · exact Or.inl (Or.inr (Or.inl (zi_eq.mpr h)))
  · exact Or.inl (Or.inr (Or.inr (Or.inl (zi_eq.mpr h))))
  · exact Or.inl (Or.inr (Or.inr (Or.inr (Or.inl (zi_eq.mpr h)))))
  · exact Or.inl (Or.inr (Or.inr (Or.inr (Or.inr (zi_eq.mpr h)))))
  · exact Or.inr (Or.inl h)
  · exact Or.inr (Or.inr h)
theorem c_piece {I : zI} {J : zJ} {n e u H : Nat} {f : Nat → Int} {l1 l2 w : Int32} (hf : zfb f) (hu : zupto f n) (hn : n ≤ 300) (hC : zCov I J 40 f n e u H) : (¬ zIsP f n e u H l1 l2 → zg_GP_piece_0 X 0 l1 l2 w (zM b I J) = some (some (.int zN), zM b I J)) ∧ ∀ l k, l < H → k < zTn f n e u (l + 1) → l1 = Int32.ofNat l → l2 = Int32.ofNat k → zg_GP_piece_0 X 0 l1 l2 w (zM b I J) = some (some (.int (zpcF f n e u l k w)), zM b I J) := by
  have hH9 := zHt_9 hu hn hC.2.1
  constructor
  · intro h
    rw [zg_GP_piece_0_e, zo0, c_isPiece0 X hu hn hC h, zci, if_pos rfl]; rfl
  · rintro l k hl hk rfl rfl
    have h300 := zT_300 (e := e) (u := u) hu hn (l := l) (by omega)
    have hcap := zT_cap (e := e) (u := u) hu hn (l := l) (by omega)
    have hs : zLs b (49 + 6 * l) (zcap l) := ((zCvS_40 b).2.2.2.2.1 l (by omega)).2
    have hlv : zLv I J (49 + 6 * l) (zTf f n e u l) (zTn f n e u l) (zel e u l) := hC.2.2.2 l hl
    have lk := fun (k : Nat → Option (Option Value × zv_M)) => (show zv_iq (zM b I J) 41 (Int32.ofNat l) (fun j => zv_rf (zP b 41 j) k) = k (49 + 6 * l) from zcvlev (I := I) (J := J) (l := l) (k := k) (zCvS_40 b) (by omega))
    have hk' : k < zNp (zTf f n e u l) (zTn f n e u l) (zel e u l) := by rw [← zTn_s]; exact hk
    have hF := (zNp_spec (zTf f n e u l) (zTn f n e u l) (zel e u l)).2 k hk'
    have hhalf := zNp_half (e := zel e u l) (zT_up (e := e) (u := u) hu l)
    obtain ⟨q1, q2, q3, q4, q5⟩ := hlv.2.2.2.2 k hk'
    obtain ⟨s0, s1, s2, s3, s4, s5, p0, p4, p5, p6, p7, hc⟩ := hs
    have hs : zLs b (49 + 6 * l) (zcap l) := ((zCvS_40 b).2.2.2.2.1 l (by omega)).2
    have st : zg_GP_piece_0 X 0 (Int32.ofNat l) (Int32.ofNat k) w (zM b I J) = if (w : Int32).toInt < 0 ∨ 4 < (w : Int32).toInt then zg_GP_piece_98 X (zM b I J) else zv_sw [60, 68, 75, 83, 91] ((w : Int32).toInt - 0).toNat (fun l' => zR X (zv_jmp 95 l' [some (.ref 0), some (.int (Int32.ofNat l)), some (.int (Int32.ofNat k)), some (.int w), some (.ref (49 + 6 * l))] [] (zM b I J))) := by
      rw [zg_GP_piece_0_e, zo0, c_isPiece1 X hu hn hC hl hk, zci, if_neg (by decide), zg_GP_piece_12_e, zo0, zM_P, zp0_4, zrf, zo40, zp40_0, zrf, lk]
    rw [st]
    unfold zpcF
    rcases zw04 (w := w) with (rfl | rfl | rfl | rfl | rfl) | hw
    · rw [if_neg (by decide), zsw_GP0, zg_GP_piece_60_e, zob s0, zM_P, p4, zrf, zix s2 (by omega) (by omega), zM_I, q1, if_pos rfl]
    · rw [if_neg (by decide), zsw_GP1, zg_GP_piece_68_e, zob s0, c_lastOf X hs hcap (zT_up hu l) hlv hk', zci, if_neg (by decide), if_pos rfl]
    · rw [if_neg (by decide), zsw_GP2, zg_GP_piece_75_e, zob s0, zM_P, p5, zrf, zix s3 (by omega) (by omega), zM_I, if_neg (by decide), if_neg (by decide), if_pos rfl, zofI q2]
    · rw [if_neg (by decide), zsw_GP3, zg_GP_piece_83_e, zob s0, zM_P, p6, zrf, zix s4 (by omega) (by omega), zM_I, if_neg (by decide), if_neg (by decide), if_neg (by decide), if_pos rfl, zofI q3]
    · rw [if_neg (by decide), zsw_GP4, zg_GP_piece_91_e, zob s0, c_firstKey X hs hcap (zT_up hu l) hlv hk', zci, if_neg (by decide), if_neg (by decide), if_neg (by decide), if_neg (by decide), if_pos rfl, zofI (hlv.2.2.2.1 _ hF)]
    · have n0 : ∀ c : Int32, 0 ≤ c.toInt → c.toInt ≤ 4 → ¬ w = c := fun c h1 h2 q => by rw [q] at hw; omega
      rw [if_pos hw, zg_GP_piece_98_e, if_neg (n0 0 (by decide) (by decide)), if_neg (n0 1 (by decide) (by decide)), if_neg (n0 2 (by decide) (by decide)), if_neg (n0 3 (by decide) (by decide)), if_neg (n0 4 (by decide) (by decide))]; rfl
theorem m_piece2 {I : zI} {J : zJ} {n e u H : Nat} {f : Nat → Int} {w : Int32} {l k : Nat} (hf : zfb f) (hu : zupto f n) (hn : n ≤ 300) (hC : zMCov I J f n e u H) (hl : l < H) (hk : k < zTn f n e u (l + 1)) : zg_M_piece_22 X 181 (Int32.ofNat l) (Int32.ofNat k) w (zM b I J) = some (some (.int (zpcF f n e u l k w)), zM b I J) := by
  have hH9 := zHt_9 hu hn hC.2.1
  have hl12 : l < 12 := by omega
  have h300 := zT_300 (e := e) (u := u) hu hn (l := l) (by omega)
  have hlv := hC.2.2.2 l hl
  have hk' : k < zNp (zTf f n e u l) (zTn f n e u l) (zel e u l) := by rw [← zTn_s]; exact hk
  have hF := (zNp_spec (zTf f n e u l) (zTn f n e u l) (zel e u l)).2 k hk'
  have hhalf := zNp_half (e := zel e u l) (zT_up (e := e) (u := u) hu l)
  obtain ⟨q1, q2, q3, q4, q5⟩ := hlv.2.2.2.2 k hk'
  have hk3 : k < 302 := by omega
  rw [zg_M_piece_22_e]
  unfold zpcF
  have of64 : ∀ {V : Int64} {z : Int}, V.toInt = z → -2147483648 ≤ z → z ≤ 2147483647 → Int64.toInt32 V = Int32.ofInt z := fun h h1 h2 => zofI (zof64 h h1 h2)
  rcases zw04 (w := w) with (rfl | rfl | rfl | rfl | rfl) | hw
  · rw [if_neg (by decide), zsw_M0, zg_M_piece_56_e, zo181, zM_P, zp181_18, zrf, zmt201 hl12, zmx202 hl12 hk3, zM_I, q1, if_pos rfl]
  · rw [if_neg (by decide), zsw_M1, zg_M_piece_65_e, zo181, zM_P, zp181_19, zrf, zmt214 hl12, zmx215 hl12 hk3, zM_I, q2, if_neg (by decide), if_pos rfl]
  · rw [if_neg (by decide), zsw_M2, zg_M_piece_74_e, zo181, zM_P, zp181_20, zrf, zmt227 hl12, zmx228 hl12 hk3, zM_J, if_neg (by decide), if_neg (by decide), if_pos rfl, of64 q3 (by omega) (by omega)]
  · rw [if_neg (by decide), zsw_M3, zg_M_piece_84_e, zo181, zM_P, zp181_21, zrf, zmt240 hl12, zmx241 hl12 hk3, zM_J, if_neg (by decide), if_neg (by decide), if_neg (by decide), if_pos rfl, of64 q4 (by omega) (by omega)]
  · rw [if_neg (by decide), zsw_M4, zg_M_piece_94_e, zo181, zM_P, zp181_17, zrf, zmt188 hl12, zo181, zp181_18, zrf, zmt201 hl12, zmx202 hl12 hk3, zM_I, q1, zmx189 hl12 (by omega), if_neg (by decide), if_neg (by decide), if_neg (by decide), if_neg (by decide), if_pos rfl, zofI (hlv.2.2.2.1 _ hF)]
  · have n0 : ∀ c : Int32, 0 ≤ c.toInt → c.toInt ≤ 4 → ¬ w = c := fun c h1 h2 q => by rw [q] at hw; omega
    rw [if_pos hw, zg_M_piece_110_e, if_neg (n0 0 (by decide) (by decide)), if_neg (n0 1 (by decide) (by decide)), if_neg (n0 2 (by decide) (by decide)), if_neg (n0 3 (by decide) (by decide)), if_neg (n0 4 (by decide) (by decide))]; rfl
end ZPI
/-! both sides answer alike once the levels are laid -/
section ZPG
variable (X : zv_X) {b : Bool} {I : zI} {J : zJ} {R : List Int32} {e u : Nat}
abbrev zrf' (R : List Int32) : Nat → Int := fun i => (R.getD i 0).toInt
/-- what the reference's row must be -/
def zRow (I : zI) (R : List Int32) (e u : Nat) : Prop := R.length ≤ 300 ∧ I 182 8 = Int32.ofNat R.length ∧ zrow (fun k => I 182 (20 + k)) R ∧ I 182 0 = Int32.ofNat e ∧ I 182 1 = Int32.ofNat u ∧ e ≤ 20 ∧ u ≤ 20 ∧ zfb (zrf' R) ∧ zupto (zrf' R) R.length
def zfrM (I I' : zI) (J J' : zJ) : Prop := (∀ a, a < 181 → I' a = I a ∧ J' a = J a) ∧ (∀ a, 182 ≤ a → a ≤ 187 → I' a = I a) ∧ ∀ j, j ≠ 25 → j ≠ 30 → I' 181 j = I 181 j
theorem zfM_frM {I I' : zI} {J J' : zJ} (h : zfM I I' J J') : zfrM I I' J J' := ⟨h.1, h.2.1, fun j h1 _ => h.2.2 j h1⟩
theorem zfrM_only {I I' I'' : zI} {J J' : zJ} (h : zfrM I I' J J') (ho : zonly 181 30 I' I'') : zfrM I I'' J J' := ⟨fun a ha => ⟨(ho.2 a (by omega)).trans (h.1 a ha).1, (h.1 a ha).2⟩, fun a h1 h2 => (ho.2 a (by omega)).trans (h.2.1 a h1 h2), fun j h1 h2 => (ho.1 j h2).trans (h.2.2 j h1 h2)⟩
theorem m_row (h : zRow I R e u) (e' : Nat) (he' : e' ≤ 20) : ∃ I' J' H, zg_M_laysRow_0 X 181 (Int32.ofNat e') (zM b I J) = some (none, zM b I' J') ∧ zMCov I' J' (zrf' R) R.length e' u H ∧ zfM I I' J J' := by
  obtain ⟨h1, h2, h3, h4, h5, h6, h7, h8, h9⟩ := h
  exact m_laysRow X h1 h2 h3 h5 he' h7 h8 h9
theorem m_piece {l1 l2 w : Int32} (h : zRow I R e u) : ∃ I' J' H, zHt (zrf' R) R.length e u H ∧ zfrM I I' J J' ∧ (¬ zIsP (zrf' R) R.length e u H l1 l2 → zg_M_piece_0 X 181 l1 l2 w (zM b I J) = some (some (.int zN), zM b I' J')) ∧ ∀ l k, l < H → k < zTn (zrf' R) R.length e u (l + 1) → l1 = Int32.ofNat l → l2 = Int32.ofNat k → zg_M_piece_0 X 181 l1 l2 w (zM b I J) = some (some (.int (zpcF (zrf' R) R.length e u l k w)), zM b I' J') := by
  obtain ⟨I1, J1, H, k1, k2, k3⟩ := m_row X (b := b) (J := J) h e h.2.2.2.2.2.1
  refine ⟨I1, J1, H, k2.2.1, zfM_frM k3, fun hn => ?_, ?_⟩
  · rw [zg_M_piece_0_e, zo181, zM_P, zp181_0, zrf, zw_0, zM_I, h.2.2.2.1, zo181, k1, zcv, zo181, m_isPiece0 X h.2.2.2.2.2.2.2.2 h.1 k2 hn, zci, if_pos rfl]; rfl
  · rintro l k hl hk rfl rfl
    rw [zg_M_piece_0_e, zo181, zM_P, zp181_0, zrf, zw_0, zM_I, h.2.2.2.1, zo181, k1, zcv, zo181, m_isPiece1 X h.2.2.2.2.2.2.2.2 h.1 k2 hl hk, zci, if_neg (by decide), m_piece2 X h.2.2.2.2.2.2.2.1 h.2.2.2.2.2.2.2.2 h.1 k2 hl hk]
theorem c_guessGP {n H : Nat} {f : Nat → Int} {l1 l2 x : Int32} (hf : zfb f) (hu : zupto f n) (hn : n ≤ 300) (he20 : e ≤ 20) (hu20 : u ≤ 20) (hC : zCov I J 40 f n e u H) : (¬ zIsP f n e u H l1 l2 → zg_GP_guess_0 X 0 l1 l2 x (zM b I J) = some (some (.int (-1)), zM b I J)) ∧ ∀ l k, l < H → k < zTn f n e u (l + 1) → l1 = Int32.ofNat l → l2 = Int32.ofNat k → zg_GP_guess_0 X 0 l1 l2 x (zM b I J) = some (some (.int (Int32.ofNat (zgk (zTf f n e u l) (zTn f n e u l) (zel e u l) k x.toInt))), zM b I J) := by
  have hH9 := zHt_9 hu hn hC.2.1
  constructor
  · intro h
    rw [zg_GP_guess_0_e, zo0, c_isPiece0 X hu hn hC h, zci, if_pos rfl, zg_GP_guess_26_e, zg_GP_guess_27_e]
  · rintro l k hl hk rfl rfl
    have h300 := zT_300 (e := e) (u := u) hu hn (l := l) (by omega)
    have hcap := zT_cap (e := e) (u := u) hu hn (l := l) (by omega)
    have hs : zLs b (49 + 6 * l) (zcap l) := ((zCvS_40 b).2.2.2.2.1 l (by omega)).2
    have hlv : zLv I J (49 + 6 * l) (zTf f n e u l) (zTn f n e u l) (zel e u l) := hC.2.2.2 l hl
    have hel : zel e u l ≤ 20 := by unfold zel; split <;> omega
    have lk := fun (k : Nat → Option (Option Value × zv_M)) => (show zv_iq (zM b I J) 41 (Int32.ofNat l) (fun j => zv_rf (zP b 41 j) k) = k (49 + 6 * l) from zcvlev (I := I) (J := J) (l := l) (k := k) (zCvS_40 b) (by omega))
    have hk' : k < zNp (zTf f n e u l) (zTn f n e u l) (zel e u l) := by rw [← zTn_s]; exact hk
    rw [zg_GP_guess_0_e, zo0, c_isPiece1 X hu hn hC hl hk, zci, if_neg (by decide), zo0, zM_P, zp0_4, zrf, zo40, zp40_0, zrf, lk, zob hs.1, c_guess X hs hcap (by omega) hel (zT_up hu l) (zT_fb hf l) hlv hk', zci, zg_GP_guess_27_e]
theorem m_guess {l1 l2 x : Int32} (h : zRow I R e u) : ∃ I' J' H, zHt (zrf' R) R.length e u H ∧ zfrM I I' J J' ∧ (¬ zIsP (zrf' R) R.length e u H l1 l2 → zg_M_guess_0 X 181 l1 l2 x (zM b I J) = some (some (.int (-1)), zM b I' J')) ∧ ∀ l k, l < H → k < zTn (zrf' R) R.length e u (l + 1) → l1 = Int32.ofNat l → l2 = Int32.ofNat k → zg_M_guess_0 X 181 l1 l2 x (zM b I J) = some (some (.int (Int32.ofNat (zgk (zTf (zrf' R) R.length e u l) (zTn (zrf' R) R.length e u l) (zel e u l) k x.toInt))), zM b I' J') := by
  obtain ⟨I1, J1, H, k1, k2, k3⟩ := m_row X (b := b) (J := J) h e h.2.2.2.2.2.1
  have hu := h.2.2.2.2.2.2.2.2
  have hf := h.2.2.2.2.2.2.2.1
  have hH9 := zHt_9 hu h.1 k2.2.1
  refine ⟨I1, J1, H, k2.2.1, zfM_frM k3, fun hn => ?_, ?_⟩
  · rw [zg_M_guess_0_e, zo181, zM_P, zp181_0, zrf, zw_0, zM_I, h.2.2.2.1, zo181, k1, zcv, zo181, m_isPiece0 X hu h.1 k2 hn, zci, if_pos rfl, zg_M_guess_29_e, zg_M_guess_30_e]
  · rintro l k hl hk rfl rfl
    have h300 := zT_300 (e := e) (u := u) hu h.1 (l := l) (by omega)
    have hel : zel e u l ≤ 20 := by have := h.2.2.2.2.2.1; have := h.2.2.2.2.2.2.1; unfold zel; split <;> omega
    have hk' : k < zNp (zTf (zrf' R) R.length e u l) (zTn (zrf' R) R.length e u l) (zel e u l) := by rw [← zTn_s]; exact hk
    rw [zg_M_guess_0_e, zo181, zM_P, zp181_0, zrf, zw_0, zM_I, h.2.2.2.1, zo181, k1, zcv, zo181, m_isPiece1 X hu h.1 k2 hl hk, zci, if_neg (by decide), zo181, m_guessOf X (by omega) (by omega) hel (zT_up hu l) (zT_fb hf l) (k2.2.2.2 l hl) hk', zci, zg_M_guess_30_e]
end ZPG
