/-! THE REFERENCE'S CONSTRUCTOR -/
def zMi : List zv_I := [(0, .aload_n 0, []), (1, .invokespecial 1, [1002]), (4, .aload_n 0, []), (5, .sipush 1668, []), (8, .newarray .int, [0]), (10, .putfield 7, [12, 0, 2]), (13, .aload_n 0, []), (14, .sipush 1668, []), (17, .newarray .int, [0]), (19, .putfield 13, [12, 1, 2]), (22, .aload_n 0, []), (23, .sipush 1668, []), (26, .newarray .int, [0]), (28, .putfield 16, [12, 2, 2]), (31, .aload_n 0, []), (32, .sipush 302, []), (35, .newarray .int, [0]), (37, .putfield 19, [12, 4, 2]), (40, .aload_n 0, []), (41, .sipush 302, []), (44, .newarray .int, [0]), (46, .putfield 22, [12, 5, 2]), (49, .aload_n 0, []), (50, .sipush 600, []), (53, .newarray .int, [0]), (55, .putfield 25, [12, 6, 2]), (58, .aload_n 0, []), (59, .iconst (-1), []), (60, .putfield 28, [12, 15, 0]), (63, .aload_n 0, []), (64, .bipush 12, []), (66, .sipush 302, []), (69, .multianewarray 32 2, [5, 0]), (73, .putfield 34, [12, 17, 2]), (76, .aload_n 0, []), (77, .bipush 12, []), (79, .sipush 302, []), (82, .multianewarray 32 2, [5, 0]), (86, .putfield 37, [12, 18, 2]), (89, .aload_n 0, []), (90, .bipush 12, []), (92, .sipush 302, []), (95, .multianewarray 32 2, [5, 0]), (99, .putfield 40, [12, 19, 2]), (102, .aload_n 0, []), (103, .bipush 12, []), (105, .sipush 302, []), (108, .multianewarray 43 2, [6, 1]), (112, .putfield 45, [12, 20, 2]), (115, .aload_n 0, []), (116, .bipush 12, []), (118, .sipush 302, []), (121, .multianewarray 43 2, [6, 1]), (125, .putfield 48, [12, 21, 2]), (128, .aload_n 0, []), (129, .bipush 12, []), (131, .newarray .int, [0]), (133, .putfield 51, [12, 22, 2]), (136, .aload_n 0, []), (137, .bipush 12, []), (139, .newarray .int, [0]), (141, .putfield 54, [12, 23, 2]), (144, .aload_n 0, []), (145, .bipush 12, []), (147, .newarray .int, [0]), (149, .putfield 57, [12, 24, 2]), (152, .aload_n 0, []), (153, .sipush 512, []), (156, .newarray .boolean, [3]), (158, .putfield 60, [12, 31, 2]), (161, .aload_n 0, []), (162, .sipush 302, []), (165, .newarray .boolean, [3]), (167, .putfield 64, [12, 32, 2]), (170, .aload_n 0, []), (171, .getfield 7, [12, 0, 2]), (174, .iconst 0, []), (175, .iconst 1, []), (176, .iastore, []), (177, .aload_n 0, []), (178, .getfield 7, [12, 0, 2]), (181, .iconst 1, []), (182, .iconst 1, []), (183, .iastore, []), (184, .aload_n 0, []), (185, .getfield 7, [12, 0, 2]), (188, .iconst 2, []), (189, .iconst 4, []), (190, .iastore, []), (191, .aload_n 0, []), (192, .getfield 7, [12, 0, 2]), (195, .iconst 3, []), (196, .bipush 8, []), (198, .iastore, []), (199, .aload_n 0, []), (200, .getfield 7, [12, 0, 2]), (203, .iconst 4, []), (204, .bipush 8, []), (206, .iastore, []), (207, .aload_n 0, []), (208, .getfield 7, [12, 0, 2]), (211, .iconst 5, []), (212, .bipush 64, []), (214, .iastore, []), (215, .aload_n 0, []), (216, .getfield 7, [12, 0, 2]), (219, .bipush 6, []), (221, .iconst 2, []), (222, .iastore, []), (223, .return_, [])]
def zprw (P : zPP) (n : Nat) : zPP := va_up P n (fun j => if j < 12 then some (n + 1 + j) else none)
theorem zprw_ne {P : zPP} {n a : Nat} (h : a ≠ n) : zprw P n a = P a := zup_ne h
theorem zprw_same {P : zPP} {n : Nat} : zprw P n n = fun j => if j < 12 then some (n + 1 + j) else none := zup_same
theorem zcln_prw {n n' a : Nat} {I : zI} {J : zJ} {P : zPP} (h : zcln n I J P) (hn : n ≤ n') (ha : a < n') : zcln n' I J (zprw P a) := fun a' ha' => ⟨(h a' (by omega)).1, (h a' (by omega)).2.1, by rw [zprw_ne (by omega)]; exact (h a' (by omega)).2.2⟩
theorem zK_mks {I : zI} {J : zJ} {sh : (Nat × Nat) ⊕ Nat} : ∀ (m n : Nat) (P : zPP), (∀ i, i < m → zSH[n + i]? = some sh) → zcln n I J P → zv_mks sh m (zK n I J P) = zK (n + m) I J P
  | 0, n, P, h, hc => rfl
  | m + 1, n, P, h, hc => by
    show zv_mks sh m (zv_mk (zK n I J P) sh) = _
    rw [zK_mk (n := n) (h 0 (by omega)) hc, zK_mks m (n + 1) P (fun i hi => by rw [show n + 1 + i = n + (i + 1) by omega]; exact h (i + 1) (by omega)) (zcln_le hc (by omega)), show n + 1 + m = n + (m + 1) by omega]
theorem zK_mul2 {α : Type} {n ot it : Nat} {I : zI} {J : zJ} {P : zPP} {k : zv_M → Option α} (ht : (ot = 5 ∧ it = 0) ∨ (ot = 6 ∧ it = 1)) (h0 : zSH[n]? = some (.inl (ot, 12))) (h1 : ∀ i, i < 12 → zSH[n + 1 + i]? = some (.inl (it, 302))) (hc : zcln n I J P) : zv_mul2 (zK n I J P) ot it 12 302 k = k (zK (n + 13) I J (zprw P n)) := by
  have hn := (List.getElem?_eq_some_iff.mp h0).1
  rw [zSH_len] at hn
  unfold zv_mul2
  rw [show Int32.toNatClampNeg 12 = 12 from rfl, show Int32.toNatClampNeg 302 = 302 from rfl, if_neg, zK_mk h0 hc, zK_len (by omega)]
  · have e : ((zK (n + 1) I J P).1, (zK (n + 1) I J P).2.1, (zK (n + 1) I J P).2.2.1, va_up (zK n I J P).2.2.2 n (fun j => if j < 12 then some (n + 1 + j) else none)) = zK (n + 1) I J (zprw P n) := rfl
    rw [e, zK_mks 12 (n + 1) _ h1 (zcln_prw hc (by omega) (by omega))]
  · rintro (q | q | q | q | q)
    · exact absurd q (by decide)
    · exact absurd q (by decide)
    · exact absurd q (by decide)
    · exact absurd q (by decide)
    · exact q ht
theorem zMi_s (X : zv_X) (l0 : Nat) (μ : zv_M) : zg_M_init_0 X l0 μ = zv_exe X 120 (zR X) zMi [some (.ref l0)] [] μ := by
  have hb : zv_blk 120 0 = some ([true], zMi) := rfl
  unfold zg_M_init_0
  rw [zR_step]
  unfold zv_step
  show (match zv_blk 120 0 with
    | some b => zv_exe X 120 (zR X) b.2 [some (.ref l0)] [] μ
    | none => none) = _
  rw [hb]
theorem zx_1 (X : zv_X) (r : List zv_I) {I : zI} {J : zJ} {P : zPP} (hc : zcln 182 I J P) : zv_exe X 120 (zR X) ((0, .aload_n 0, []) :: (1, .invokespecial 1, [1002]) :: (4, .aload_n 0, []) :: (5, .sipush 1668, []) :: (8, .newarray .int, [0]) :: (10, .putfield 7, [12, 0, 2]) :: r) [some (.ref 181)] [] (zK 182 I J P) = zv_exe X 120 (zR X) r [some (.ref 181)] [] (zK 183 I J (zpu P 181 0 (some 182))) := by
  have e : zv_exe X 120 (zR X) ((0, .aload_n 0, []) :: (1, .invokespecial 1, [1002]) :: (4, .aload_n 0, []) :: (5, .sipush 1668, []) :: (8, .newarray .int, [0]) :: (10, .putfield 7, [12, 0, 2]) :: r) [some (.ref 181)] [] (zK 182 I J P) = (if (1668 : Int32) < 0 ∨ 100000 < (1668 : Int32).toNatClampNeg ∨ 4 ≤ 0 then none else zv_ob (zv_mk (zK 182 I J P) (.inl (0, (1668 : Int32).toNatClampNeg))) 12 181 (zv_exe X 120 (zR X) r [some (.ref 181)] [] (zv_wP (zv_mk (zK 182 I J P) (.inl (0, (1668 : Int32).toNatClampNeg))) 181 0 (some (zK 182 I J P).1.length)))) := rfl
  rw [e, show Int32.toNatClampNeg 1668 = 1668 from rfl, if_neg (by decide), zK_mk (n := 182) rfl hc, zK_ob (a := 181) (c := 12) (by decide) rfl, zK_len (n := 182) (by decide), zK_wP]
theorem zx_2 (X : zv_X) (r : List zv_I) {I : zI} {J : zJ} {P : zPP} (hc : zcln 183 I J P) : zv_exe X 120 (zR X) ((13, .aload_n 0, []) :: (14, .sipush 1668, []) :: (17, .newarray .int, [0]) :: (19, .putfield 13, [12, 1, 2]) :: r) [some (.ref 181)] [] (zK 183 I J P) = zv_exe X 120 (zR X) r [some (.ref 181)] [] (zK 184 I J (zpu P 181 1 (some 183))) := by
  have e : zv_exe X 120 (zR X) ((13, .aload_n 0, []) :: (14, .sipush 1668, []) :: (17, .newarray .int, [0]) :: (19, .putfield 13, [12, 1, 2]) :: r) [some (.ref 181)] [] (zK 183 I J P) = (if (1668 : Int32) < 0 ∨ 100000 < (1668 : Int32).toNatClampNeg ∨ 4 ≤ 0 then none else zv_ob (zv_mk (zK 183 I J P) (.inl (0, (1668 : Int32).toNatClampNeg))) 12 181 (zv_exe X 120 (zR X) r [some (.ref 181)] [] (zv_wP (zv_mk (zK 183 I J P) (.inl (0, (1668 : Int32).toNatClampNeg))) 181 1 (some (zK 183 I J P).1.length)))) := rfl
  rw [e, show Int32.toNatClampNeg 1668 = 1668 from rfl, if_neg (by decide), zK_mk (n := 183) rfl hc, zK_ob (a := 181) (c := 12) (by decide) rfl, zK_len (n := 183) (by decide), zK_wP]
theorem zx_3 (X : zv_X) (r : List zv_I) {I : zI} {J : zJ} {P : zPP} (hc : zcln 184 I J P) : zv_exe X 120 (zR X) ((22, .aload_n 0, []) :: (23, .sipush 1668, []) :: (26, .newarray .int, [0]) :: (28, .putfield 16, [12, 2, 2]) :: r) [some (.ref 181)] [] (zK 184 I J P) = zv_exe X 120 (zR X) r [some (.ref 181)] [] (zK 185 I J (zpu P 181 2 (some 184))) := by
  have e : zv_exe X 120 (zR X) ((22, .aload_n 0, []) :: (23, .sipush 1668, []) :: (26, .newarray .int, [0]) :: (28, .putfield 16, [12, 2, 2]) :: r) [some (.ref 181)] [] (zK 184 I J P) = (if (1668 : Int32) < 0 ∨ 100000 < (1668 : Int32).toNatClampNeg ∨ 4 ≤ 0 then none else zv_ob (zv_mk (zK 184 I J P) (.inl (0, (1668 : Int32).toNatClampNeg))) 12 181 (zv_exe X 120 (zR X) r [some (.ref 181)] [] (zv_wP (zv_mk (zK 184 I J P) (.inl (0, (1668 : Int32).toNatClampNeg))) 181 2 (some (zK 184 I J P).1.length)))) := rfl
  rw [e, show Int32.toNatClampNeg 1668 = 1668 from rfl, if_neg (by decide), zK_mk (n := 184) rfl hc, zK_ob (a := 181) (c := 12) (by decide) rfl, zK_len (n := 184) (by decide), zK_wP]
theorem zx_4 (X : zv_X) (r : List zv_I) {I : zI} {J : zJ} {P : zPP} (hc : zcln 185 I J P) : zv_exe X 120 (zR X) ((31, .aload_n 0, []) :: (32, .sipush 302, []) :: (35, .newarray .int, [0]) :: (37, .putfield 19, [12, 4, 2]) :: r) [some (.ref 181)] [] (zK 185 I J P) = zv_exe X 120 (zR X) r [some (.ref 181)] [] (zK 186 I J (zpu P 181 4 (some 185))) := by
  have e : zv_exe X 120 (zR X) ((31, .aload_n 0, []) :: (32, .sipush 302, []) :: (35, .newarray .int, [0]) :: (37, .putfield 19, [12, 4, 2]) :: r) [some (.ref 181)] [] (zK 185 I J P) = (if (302 : Int32) < 0 ∨ 100000 < (302 : Int32).toNatClampNeg ∨ 4 ≤ 0 then none else zv_ob (zv_mk (zK 185 I J P) (.inl (0, (302 : Int32).toNatClampNeg))) 12 181 (zv_exe X 120 (zR X) r [some (.ref 181)] [] (zv_wP (zv_mk (zK 185 I J P) (.inl (0, (302 : Int32).toNatClampNeg))) 181 4 (some (zK 185 I J P).1.length)))) := rfl
  rw [e, show Int32.toNatClampNeg 302 = 302 from rfl, if_neg (by decide), zK_mk (n := 185) rfl hc, zK_ob (a := 181) (c := 12) (by decide) rfl, zK_len (n := 185) (by decide), zK_wP]
theorem zx_5 (X : zv_X) (r : List zv_I) {I : zI} {J : zJ} {P : zPP} (hc : zcln 186 I J P) : zv_exe X 120 (zR X) ((40, .aload_n 0, []) :: (41, .sipush 302, []) :: (44, .newarray .int, [0]) :: (46, .putfield 22, [12, 5, 2]) :: r) [some (.ref 181)] [] (zK 186 I J P) = zv_exe X 120 (zR X) r [some (.ref 181)] [] (zK 187 I J (zpu P 181 5 (some 186))) := by
  have e : zv_exe X 120 (zR X) ((40, .aload_n 0, []) :: (41, .sipush 302, []) :: (44, .newarray .int, [0]) :: (46, .putfield 22, [12, 5, 2]) :: r) [some (.ref 181)] [] (zK 186 I J P) = (if (302 : Int32) < 0 ∨ 100000 < (302 : Int32).toNatClampNeg ∨ 4 ≤ 0 then none else zv_ob (zv_mk (zK 186 I J P) (.inl (0, (302 : Int32).toNatClampNeg))) 12 181 (zv_exe X 120 (zR X) r [some (.ref 181)] [] (zv_wP (zv_mk (zK 186 I J P) (.inl (0, (302 : Int32).toNatClampNeg))) 181 5 (some (zK 186 I J P).1.length)))) := rfl
  rw [e, show Int32.toNatClampNeg 302 = 302 from rfl, if_neg (by decide), zK_mk (n := 186) rfl hc, zK_ob (a := 181) (c := 12) (by decide) rfl, zK_len (n := 186) (by decide), zK_wP]
theorem zx_6 (X : zv_X) (r : List zv_I) {I : zI} {J : zJ} {P : zPP} (hc : zcln 187 I J P) : zv_exe X 120 (zR X) ((49, .aload_n 0, []) :: (50, .sipush 600, []) :: (53, .newarray .int, [0]) :: (55, .putfield 25, [12, 6, 2]) :: r) [some (.ref 181)] [] (zK 187 I J P) = zv_exe X 120 (zR X) r [some (.ref 181)] [] (zK 188 I J (zpu P 181 6 (some 187))) := by
  have e : zv_exe X 120 (zR X) ((49, .aload_n 0, []) :: (50, .sipush 600, []) :: (53, .newarray .int, [0]) :: (55, .putfield 25, [12, 6, 2]) :: r) [some (.ref 181)] [] (zK 187 I J P) = (if (600 : Int32) < 0 ∨ 100000 < (600 : Int32).toNatClampNeg ∨ 4 ≤ 0 then none else zv_ob (zv_mk (zK 187 I J P) (.inl (0, (600 : Int32).toNatClampNeg))) 12 181 (zv_exe X 120 (zR X) r [some (.ref 181)] [] (zv_wP (zv_mk (zK 187 I J P) (.inl (0, (600 : Int32).toNatClampNeg))) 181 6 (some (zK 187 I J P).1.length)))) := rfl
  rw [e, show Int32.toNatClampNeg 600 = 600 from rfl, if_neg (by decide), zK_mk (n := 187) rfl hc, zK_ob (a := 181) (c := 12) (by decide) rfl, zK_len (n := 187) (by decide), zK_wP]
theorem zx_7 (X : zv_X) (r : List zv_I) {I : zI} {J : zJ} {P : zPP} : zv_exe X 120 (zR X) ((58, .aload_n 0, []) :: (59, .iconst (-1), []) :: (60, .putfield 28, [12, 15, 0]) :: r) [some (.ref 181)] [] (zK 188 I J P) = zv_exe X 120 (zR X) r [some (.ref 181)] [] (zK 188 (zst I 181 15 (-1)) J P) := by
  have e : zv_exe X 120 (zR X) ((58, .aload_n 0, []) :: (59, .iconst (-1), []) :: (60, .putfield 28, [12, 15, 0]) :: r) [some (.ref 181)] [] (zK 188 I J P) = zv_ob (zK 188 I J P) 12 181 (zv_exe X 120 (zR X) r [some (.ref 181)] [] (zv_wI (zK 188 I J P) 181 15 (-1))) := rfl
  rw [e, zK_ob (a := 181) (c := 12) (by decide) rfl, zK_wI]
theorem zx_8 (X : zv_X) (r : List zv_I) {I : zI} {J : zJ} {P : zPP} (hc : zcln 188 I J P) : zv_exe X 120 (zR X) ((63, .aload_n 0, []) :: (64, .bipush 12, []) :: (66, .sipush 302, []) :: (69, .multianewarray 32 2, [5, 0]) :: (73, .putfield 34, [12, 17, 2]) :: r) [some (.ref 181)] [] (zK 188 I J P) = zv_exe X 120 (zR X) r [some (.ref 181)] [] (zK 201 I J (zpu (zprw P 188) 181 17 (some 188))) := by
  have e : zv_exe X 120 (zR X) ((63, .aload_n 0, []) :: (64, .bipush 12, []) :: (66, .sipush 302, []) :: (69, .multianewarray 32 2, [5, 0]) :: (73, .putfield 34, [12, 17, 2]) :: r) [some (.ref 181)] [] (zK 188 I J P) = zv_mul2 (zK 188 I J P) 5 0 12 302 (fun M2 => zv_ob M2 12 181 (zv_exe X 120 (zR X) r [some (.ref 181)] [] (zv_wP M2 181 17 (some (zK 188 I J P).1.length)))) := rfl
  rw [e, zK_mul2 (n := 188) (by decide) rfl (fun i hi => by
    match i, hi with
    | 0, _ => rfl
    | 1, _ => rfl
    | 2, _ => rfl
    | 3, _ => rfl
    | 4, _ => rfl
    | 5, _ => rfl
    | 6, _ => rfl
    | 7, _ => rfl
    | 8, _ => rfl
    | 9, _ => rfl
    | 10, _ => rfl
    | 11, _ => rfl
    | i + 12, h => exact absurd h (by omega)) hc, zK_ob (n := 201) (a := 181) (c := 12) (by decide) rfl, zK_len (n := 188) (by decide), zK_wP]
theorem zx_9 (X : zv_X) (r : List zv_I) {I : zI} {J : zJ} {P : zPP} (hc : zcln 201 I J P) : zv_exe X 120 (zR X) ((76, .aload_n 0, []) :: (77, .bipush 12, []) :: (79, .sipush 302, []) :: (82, .multianewarray 32 2, [5, 0]) :: (86, .putfield 37, [12, 18, 2]) :: r) [some (.ref 181)] [] (zK 201 I J P) = zv_exe X 120 (zR X) r [some (.ref 181)] [] (zK 214 I J (zpu (zprw P 201) 181 18 (some 201))) := by
  have e : zv_exe X 120 (zR X) ((76, .aload_n 0, []) :: (77, .bipush 12, []) :: (79, .sipush 302, []) :: (82, .multianewarray 32 2, [5, 0]) :: (86, .putfield 37, [12, 18, 2]) :: r) [some (.ref 181)] [] (zK 201 I J P) = zv_mul2 (zK 201 I J P) 5 0 12 302 (fun M2 => zv_ob M2 12 181 (zv_exe X 120 (zR X) r [some (.ref 181)] [] (zv_wP M2 181 18 (some (zK 201 I J P).1.length)))) := rfl
  rw [e, zK_mul2 (n := 201) (by decide) rfl (fun i hi => by
    match i, hi with
    | 0, _ => rfl
    | 1, _ => rfl
    | 2, _ => rfl
    | 3, _ => rfl
    | 4, _ => rfl
    | 5, _ => rfl
    | 6, _ => rfl
    | 7, _ => rfl
    | 8, _ => rfl
    | 9, _ => rfl
    | 10, _ => rfl
    | 11, _ => rfl
    | i + 12, h => exact absurd h (by omega)) hc, zK_ob (n := 214) (a := 181) (c := 12) (by decide) rfl, zK_len (n := 201) (by decide), zK_wP]
theorem zx_10 (X : zv_X) (r : List zv_I) {I : zI} {J : zJ} {P : zPP} (hc : zcln 214 I J P) : zv_exe X 120 (zR X) ((89, .aload_n 0, []) :: (90, .bipush 12, []) :: (92, .sipush 302, []) :: (95, .multianewarray 32 2, [5, 0]) :: (99, .putfield 40, [12, 19, 2]) :: r) [some (.ref 181)] [] (zK 214 I J P) = zv_exe X 120 (zR X) r [some (.ref 181)] [] (zK 227 I J (zpu (zprw P 214) 181 19 (some 214))) := by
  have e : zv_exe X 120 (zR X) ((89, .aload_n 0, []) :: (90, .bipush 12, []) :: (92, .sipush 302, []) :: (95, .multianewarray 32 2, [5, 0]) :: (99, .putfield 40, [12, 19, 2]) :: r) [some (.ref 181)] [] (zK 214 I J P) = zv_mul2 (zK 214 I J P) 5 0 12 302 (fun M2 => zv_ob M2 12 181 (zv_exe X 120 (zR X) r [some (.ref 181)] [] (zv_wP M2 181 19 (some (zK 214 I J P).1.length)))) := rfl
  rw [e, zK_mul2 (n := 214) (by decide) rfl (fun i hi => by
    match i, hi with
    | 0, _ => rfl
    | 1, _ => rfl
    | 2, _ => rfl
    | 3, _ => rfl
    | 4, _ => rfl
    | 5, _ => rfl
    | 6, _ => rfl
    | 7, _ => rfl
    | 8, _ => rfl
    | 9, _ => rfl
    | 10, _ => rfl
    | 11, _ => rfl
    | i + 12, h => exact absurd h (by omega)) hc, zK_ob (n := 227) (a := 181) (c := 12) (by decide) rfl, zK_len (n := 214) (by decide), zK_wP]
theorem zx_11 (X : zv_X) (r : List zv_I) {I : zI} {J : zJ} {P : zPP} (hc : zcln 227 I J P) : zv_exe X 120 (zR X) ((102, .aload_n 0, []) :: (103, .bipush 12, []) :: (105, .sipush 302, []) :: (108, .multianewarray 43 2, [6, 1]) :: (112, .putfield 45, [12, 20, 2]) :: r) [some (.ref 181)] [] (zK 227 I J P) = zv_exe X 120 (zR X) r [some (.ref 181)] [] (zK 240 I J (zpu (zprw P 227) 181 20 (some 227))) := by
  have e : zv_exe X 120 (zR X) ((102, .aload_n 0, []) :: (103, .bipush 12, []) :: (105, .sipush 302, []) :: (108, .multianewarray 43 2, [6, 1]) :: (112, .putfield 45, [12, 20, 2]) :: r) [some (.ref 181)] [] (zK 227 I J P) = zv_mul2 (zK 227 I J P) 6 1 12 302 (fun M2 => zv_ob M2 12 181 (zv_exe X 120 (zR X) r [some (.ref 181)] [] (zv_wP M2 181 20 (some (zK 227 I J P).1.length)))) := rfl
  rw [e, zK_mul2 (n := 227) (by decide) rfl (fun i hi => by
    match i, hi with
    | 0, _ => rfl
    | 1, _ => rfl
    | 2, _ => rfl
    | 3, _ => rfl
    | 4, _ => rfl
    | 5, _ => rfl
    | 6, _ => rfl
    | 7, _ => rfl
    | 8, _ => rfl
    | 9, _ => rfl
    | 10, _ => rfl
    | 11, _ => rfl
    | i + 12, h => exact absurd h (by omega)) hc, zK_ob (n := 240) (a := 181) (c := 12) (by decide) rfl, zK_len (n := 227) (by decide), zK_wP]
theorem zx_12 (X : zv_X) (r : List zv_I) {I : zI} {J : zJ} {P : zPP} (hc : zcln 240 I J P) : zv_exe X 120 (zR X) ((115, .aload_n 0, []) :: (116, .bipush 12, []) :: (118, .sipush 302, []) :: (121, .multianewarray 43 2, [6, 1]) :: (125, .putfield 48, [12, 21, 2]) :: r) [some (.ref 181)] [] (zK 240 I J P) = zv_exe X 120 (zR X) r [some (.ref 181)] [] (zK 253 I J (zpu (zprw P 240) 181 21 (some 240))) := by
  have e : zv_exe X 120 (zR X) ((115, .aload_n 0, []) :: (116, .bipush 12, []) :: (118, .sipush 302, []) :: (121, .multianewarray 43 2, [6, 1]) :: (125, .putfield 48, [12, 21, 2]) :: r) [some (.ref 181)] [] (zK 240 I J P) = zv_mul2 (zK 240 I J P) 6 1 12 302 (fun M2 => zv_ob M2 12 181 (zv_exe X 120 (zR X) r [some (.ref 181)] [] (zv_wP M2 181 21 (some (zK 240 I J P).1.length)))) := rfl
  rw [e, zK_mul2 (n := 240) (by decide) rfl (fun i hi => by
    match i, hi with
    | 0, _ => rfl
    | 1, _ => rfl
    | 2, _ => rfl
    | 3, _ => rfl
    | 4, _ => rfl
    | 5, _ => rfl
    | 6, _ => rfl
    | 7, _ => rfl
    | 8, _ => rfl
    | 9, _ => rfl
    | 10, _ => rfl
    | 11, _ => rfl
    | i + 12, h => exact absurd h (by omega)) hc, zK_ob (n := 253) (a := 181) (c := 12) (by decide) rfl, zK_len (n := 240) (by decide), zK_wP]
theorem zx_13 (X : zv_X) (r : List zv_I) {I : zI} {J : zJ} {P : zPP} (hc : zcln 253 I J P) : zv_exe X 120 (zR X) ((128, .aload_n 0, []) :: (129, .bipush 12, []) :: (131, .newarray .int, [0]) :: (133, .putfield 51, [12, 22, 2]) :: r) [some (.ref 181)] [] (zK 253 I J P) = zv_exe X 120 (zR X) r [some (.ref 181)] [] (zK 254 I J (zpu P 181 22 (some 253))) := by
  have e : zv_exe X 120 (zR X) ((128, .aload_n 0, []) :: (129, .bipush 12, []) :: (131, .newarray .int, [0]) :: (133, .putfield 51, [12, 22, 2]) :: r) [some (.ref 181)] [] (zK 253 I J P) = (if (12 : Int32) < 0 ∨ 100000 < (12 : Int32).toNatClampNeg ∨ 4 ≤ 0 then none else zv_ob (zv_mk (zK 253 I J P) (.inl (0, (12 : Int32).toNatClampNeg))) 12 181 (zv_exe X 120 (zR X) r [some (.ref 181)] [] (zv_wP (zv_mk (zK 253 I J P) (.inl (0, (12 : Int32).toNatClampNeg))) 181 22 (some (zK 253 I J P).1.length)))) := rfl
  rw [e, show Int32.toNatClampNeg 12 = 12 from rfl, if_neg (by decide), zK_mk (n := 253) rfl hc, zK_ob (a := 181) (c := 12) (by decide) rfl, zK_len (n := 253) (by decide), zK_wP]
theorem zx_14 (X : zv_X) (r : List zv_I) {I : zI} {J : zJ} {P : zPP} (hc : zcln 254 I J P) : zv_exe X 120 (zR X) ((136, .aload_n 0, []) :: (137, .bipush 12, []) :: (139, .newarray .int, [0]) :: (141, .putfield 54, [12, 23, 2]) :: r) [some (.ref 181)] [] (zK 254 I J P) = zv_exe X 120 (zR X) r [some (.ref 181)] [] (zK 255 I J (zpu P 181 23 (some 254))) := by
  have e : zv_exe X 120 (zR X) ((136, .aload_n 0, []) :: (137, .bipush 12, []) :: (139, .newarray .int, [0]) :: (141, .putfield 54, [12, 23, 2]) :: r) [some (.ref 181)] [] (zK 254 I J P) = (if (12 : Int32) < 0 ∨ 100000 < (12 : Int32).toNatClampNeg ∨ 4 ≤ 0 then none else zv_ob (zv_mk (zK 254 I J P) (.inl (0, (12 : Int32).toNatClampNeg))) 12 181 (zv_exe X 120 (zR X) r [some (.ref 181)] [] (zv_wP (zv_mk (zK 254 I J P) (.inl (0, (12 : Int32).toNatClampNeg))) 181 23 (some (zK 254 I J P).1.length)))) := rfl
  rw [e, show Int32.toNatClampNeg 12 = 12 from rfl, if_neg (by decide), zK_mk (n := 254) rfl hc, zK_ob (a := 181) (c := 12) (by decide) rfl, zK_len (n := 254) (by decide), zK_wP]
theorem zx_15 (X : zv_X) (r : List zv_I) {I : zI} {J : zJ} {P : zPP} (hc : zcln 255 I J P) : zv_exe X 120 (zR X) ((144, .aload_n 0, []) :: (145, .bipush 12, []) :: (147, .newarray .int, [0]) :: (149, .putfield 57, [12, 24, 2]) :: r) [some (.ref 181)] [] (zK 255 I J P) = zv_exe X 120 (zR X) r [some (.ref 181)] [] (zK 256 I J (zpu P 181 24 (some 255))) := by
  have e : zv_exe X 120 (zR X) ((144, .aload_n 0, []) :: (145, .bipush 12, []) :: (147, .newarray .int, [0]) :: (149, .putfield 57, [12, 24, 2]) :: r) [some (.ref 181)] [] (zK 255 I J P) = (if (12 : Int32) < 0 ∨ 100000 < (12 : Int32).toNatClampNeg ∨ 4 ≤ 0 then none else zv_ob (zv_mk (zK 255 I J P) (.inl (0, (12 : Int32).toNatClampNeg))) 12 181 (zv_exe X 120 (zR X) r [some (.ref 181)] [] (zv_wP (zv_mk (zK 255 I J P) (.inl (0, (12 : Int32).toNatClampNeg))) 181 24 (some (zK 255 I J P).1.length)))) := rfl
  rw [e, show Int32.toNatClampNeg 12 = 12 from rfl, if_neg (by decide), zK_mk (n := 255) rfl hc, zK_ob (a := 181) (c := 12) (by decide) rfl, zK_len (n := 255) (by decide), zK_wP]
theorem zx_16 (X : zv_X) (r : List zv_I) {I : zI} {J : zJ} {P : zPP} (hc : zcln 256 I J P) : zv_exe X 120 (zR X) ((152, .aload_n 0, []) :: (153, .sipush 512, []) :: (156, .newarray .boolean, [3]) :: (158, .putfield 60, [12, 31, 2]) :: r) [some (.ref 181)] [] (zK 256 I J P) = zv_exe X 120 (zR X) r [some (.ref 181)] [] (zK 257 I J (zpu P 181 31 (some 256))) := by
  have e : zv_exe X 120 (zR X) ((152, .aload_n 0, []) :: (153, .sipush 512, []) :: (156, .newarray .boolean, [3]) :: (158, .putfield 60, [12, 31, 2]) :: r) [some (.ref 181)] [] (zK 256 I J P) = (if (512 : Int32) < 0 ∨ 100000 < (512 : Int32).toNatClampNeg ∨ 4 ≤ 3 then none else zv_ob (zv_mk (zK 256 I J P) (.inl (3, (512 : Int32).toNatClampNeg))) 12 181 (zv_exe X 120 (zR X) r [some (.ref 181)] [] (zv_wP (zv_mk (zK 256 I J P) (.inl (3, (512 : Int32).toNatClampNeg))) 181 31 (some (zK 256 I J P).1.length)))) := rfl
  rw [e, show Int32.toNatClampNeg 512 = 512 from rfl, if_neg (by decide), zK_mk (n := 256) rfl hc, zK_ob (a := 181) (c := 12) (by decide) rfl, zK_len (n := 256) (by decide), zK_wP]
theorem zx_17 (X : zv_X) (r : List zv_I) {I : zI} {J : zJ} {P : zPP} (hc : zcln 257 I J P) : zv_exe X 120 (zR X) ((161, .aload_n 0, []) :: (162, .sipush 302, []) :: (165, .newarray .boolean, [3]) :: (167, .putfield 64, [12, 32, 2]) :: r) [some (.ref 181)] [] (zK 257 I J P) = zv_exe X 120 (zR X) r [some (.ref 181)] [] (zK 258 I J (zpu P 181 32 (some 257))) := by
  have e : zv_exe X 120 (zR X) ((161, .aload_n 0, []) :: (162, .sipush 302, []) :: (165, .newarray .boolean, [3]) :: (167, .putfield 64, [12, 32, 2]) :: r) [some (.ref 181)] [] (zK 257 I J P) = (if (302 : Int32) < 0 ∨ 100000 < (302 : Int32).toNatClampNeg ∨ 4 ≤ 3 then none else zv_ob (zv_mk (zK 257 I J P) (.inl (3, (302 : Int32).toNatClampNeg))) 12 181 (zv_exe X 120 (zR X) r [some (.ref 181)] [] (zv_wP (zv_mk (zK 257 I J P) (.inl (3, (302 : Int32).toNatClampNeg))) 181 32 (some (zK 257 I J P).1.length)))) := rfl
  rw [e, show Int32.toNatClampNeg 302 = 302 from rfl, if_neg (by decide), zK_mk (n := 257) rfl hc, zK_ob (a := 181) (c := 12) (by decide) rfl, zK_len (n := 257) (by decide), zK_wP]
theorem zx_18 (X : zv_X) (r : List zv_I) {I : zI} {J : zJ} {P : zPP} (hp : P 181 0 = some 182) : zv_exe X 120 (zR X) ((170, .aload_n 0, []) :: (171, .getfield 7, [12, 0, 2]) :: (174, .iconst 0, []) :: (175, .iconst 1, []) :: (176, .iastore, []) :: r) [some (.ref 181)] [] (zK 258 I J P) = zv_exe X 120 (zR X) r [some (.ref 181)] [] (zK 258 (zst I 182 0 (1)) J P) := by
  have e : zv_exe X 120 (zR X) ((170, .aload_n 0, []) :: (171, .getfield 7, [12, 0, 2]) :: (174, .iconst 0, []) :: (175, .iconst 1, []) :: (176, .iastore, []) :: r) [some (.ref 181)] [] (zK 258 I J P) = zv_ob (zK 258 I J P) 12 181 (zv_rf ((zK 258 I J P).2.2.2 181 0) (fun p => zv_ix (zK 258 I J P) 0 p 0 (fun j => zv_exe X 120 (zR X) r [some (.ref 181)] [] (zv_wI (zK 258 I J P) p j (1))))) := rfl
  have hx := fun (k : Nat → Option zv_R) => (show zv_ix (zK 258 I J P) 0 182 (0 : Int32) k = k 0 from zK_ix (n := 258) (a := 182) (t := 0) (m := 1668) (j := 0) (by decide) rfl (by decide) (by decide))
  rw [e, zK_ob (a := 181) (c := 12) (by decide) rfl, zK_P, hp, zrf, hx, zK_wI]
theorem zx_19 (X : zv_X) (r : List zv_I) {I : zI} {J : zJ} {P : zPP} (hp : P 181 0 = some 182) : zv_exe X 120 (zR X) ((177, .aload_n 0, []) :: (178, .getfield 7, [12, 0, 2]) :: (181, .iconst 1, []) :: (182, .iconst 1, []) :: (183, .iastore, []) :: r) [some (.ref 181)] [] (zK 258 I J P) = zv_exe X 120 (zR X) r [some (.ref 181)] [] (zK 258 (zst I 182 1 (1)) J P) := by
  have e : zv_exe X 120 (zR X) ((177, .aload_n 0, []) :: (178, .getfield 7, [12, 0, 2]) :: (181, .iconst 1, []) :: (182, .iconst 1, []) :: (183, .iastore, []) :: r) [some (.ref 181)] [] (zK 258 I J P) = zv_ob (zK 258 I J P) 12 181 (zv_rf ((zK 258 I J P).2.2.2 181 0) (fun p => zv_ix (zK 258 I J P) 0 p 1 (fun j => zv_exe X 120 (zR X) r [some (.ref 181)] [] (zv_wI (zK 258 I J P) p j (1))))) := rfl
  have hx := fun (k : Nat → Option zv_R) => (show zv_ix (zK 258 I J P) 0 182 (1 : Int32) k = k 1 from zK_ix (n := 258) (a := 182) (t := 0) (m := 1668) (j := 1) (by decide) rfl (by decide) (by decide))
  rw [e, zK_ob (a := 181) (c := 12) (by decide) rfl, zK_P, hp, zrf, hx, zK_wI]
theorem zx_20 (X : zv_X) (r : List zv_I) {I : zI} {J : zJ} {P : zPP} (hp : P 181 0 = some 182) : zv_exe X 120 (zR X) ((184, .aload_n 0, []) :: (185, .getfield 7, [12, 0, 2]) :: (188, .iconst 2, []) :: (189, .iconst 4, []) :: (190, .iastore, []) :: r) [some (.ref 181)] [] (zK 258 I J P) = zv_exe X 120 (zR X) r [some (.ref 181)] [] (zK 258 (zst I 182 2 (4)) J P) := by
  have e : zv_exe X 120 (zR X) ((184, .aload_n 0, []) :: (185, .getfield 7, [12, 0, 2]) :: (188, .iconst 2, []) :: (189, .iconst 4, []) :: (190, .iastore, []) :: r) [some (.ref 181)] [] (zK 258 I J P) = zv_ob (zK 258 I J P) 12 181 (zv_rf ((zK 258 I J P).2.2.2 181 0) (fun p => zv_ix (zK 258 I J P) 0 p 2 (fun j => zv_exe X 120 (zR X) r [some (.ref 181)] [] (zv_wI (zK 258 I J P) p j (4))))) := rfl
  have hx := fun (k : Nat → Option zv_R) => (show zv_ix (zK 258 I J P) 0 182 (2 : Int32) k = k 2 from zK_ix (n := 258) (a := 182) (t := 0) (m := 1668) (j := 2) (by decide) rfl (by decide) (by decide))
  rw [e, zK_ob (a := 181) (c := 12) (by decide) rfl, zK_P, hp, zrf, hx, zK_wI]
theorem zx_21 (X : zv_X) (r : List zv_I) {I : zI} {J : zJ} {P : zPP} (hp : P 181 0 = some 182) : zv_exe X 120 (zR X) ((191, .aload_n 0, []) :: (192, .getfield 7, [12, 0, 2]) :: (195, .iconst 3, []) :: (196, .bipush 8, []) :: (198, .iastore, []) :: r) [some (.ref 181)] [] (zK 258 I J P) = zv_exe X 120 (zR X) r [some (.ref 181)] [] (zK 258 (zst I 182 3 (8)) J P) := by
  have e : zv_exe X 120 (zR X) ((191, .aload_n 0, []) :: (192, .getfield 7, [12, 0, 2]) :: (195, .iconst 3, []) :: (196, .bipush 8, []) :: (198, .iastore, []) :: r) [some (.ref 181)] [] (zK 258 I J P) = zv_ob (zK 258 I J P) 12 181 (zv_rf ((zK 258 I J P).2.2.2 181 0) (fun p => zv_ix (zK 258 I J P) 0 p 3 (fun j => zv_exe X 120 (zR X) r [some (.ref 181)] [] (zv_wI (zK 258 I J P) p j (8))))) := rfl
  have hx := fun (k : Nat → Option zv_R) => (show zv_ix (zK 258 I J P) 0 182 (3 : Int32) k = k 3 from zK_ix (n := 258) (a := 182) (t := 0) (m := 1668) (j := 3) (by decide) rfl (by decide) (by decide))
  rw [e, zK_ob (a := 181) (c := 12) (by decide) rfl, zK_P, hp, zrf, hx, zK_wI]
theorem zx_22 (X : zv_X) (r : List zv_I) {I : zI} {J : zJ} {P : zPP} (hp : P 181 0 = some 182) : zv_exe X 120 (zR X) ((199, .aload_n 0, []) :: (200, .getfield 7, [12, 0, 2]) :: (203, .iconst 4, []) :: (204, .bipush 8, []) :: (206, .iastore, []) :: r) [some (.ref 181)] [] (zK 258 I J P) = zv_exe X 120 (zR X) r [some (.ref 181)] [] (zK 258 (zst I 182 4 (8)) J P) := by
  have e : zv_exe X 120 (zR X) ((199, .aload_n 0, []) :: (200, .getfield 7, [12, 0, 2]) :: (203, .iconst 4, []) :: (204, .bipush 8, []) :: (206, .iastore, []) :: r) [some (.ref 181)] [] (zK 258 I J P) = zv_ob (zK 258 I J P) 12 181 (zv_rf ((zK 258 I J P).2.2.2 181 0) (fun p => zv_ix (zK 258 I J P) 0 p 4 (fun j => zv_exe X 120 (zR X) r [some (.ref 181)] [] (zv_wI (zK 258 I J P) p j (8))))) := rfl
  have hx := fun (k : Nat → Option zv_R) => (show zv_ix (zK 258 I J P) 0 182 (4 : Int32) k = k 4 from zK_ix (n := 258) (a := 182) (t := 0) (m := 1668) (j := 4) (by decide) rfl (by decide) (by decide))
  rw [e, zK_ob (a := 181) (c := 12) (by decide) rfl, zK_P, hp, zrf, hx, zK_wI]
theorem zx_23 (X : zv_X) (r : List zv_I) {I : zI} {J : zJ} {P : zPP} (hp : P 181 0 = some 182) : zv_exe X 120 (zR X) ((207, .aload_n 0, []) :: (208, .getfield 7, [12, 0, 2]) :: (211, .iconst 5, []) :: (212, .bipush 64, []) :: (214, .iastore, []) :: r) [some (.ref 181)] [] (zK 258 I J P) = zv_exe X 120 (zR X) r [some (.ref 181)] [] (zK 258 (zst I 182 5 (64)) J P) := by
  have e : zv_exe X 120 (zR X) ((207, .aload_n 0, []) :: (208, .getfield 7, [12, 0, 2]) :: (211, .iconst 5, []) :: (212, .bipush 64, []) :: (214, .iastore, []) :: r) [some (.ref 181)] [] (zK 258 I J P) = zv_ob (zK 258 I J P) 12 181 (zv_rf ((zK 258 I J P).2.2.2 181 0) (fun p => zv_ix (zK 258 I J P) 0 p 5 (fun j => zv_exe X 120 (zR X) r [some (.ref 181)] [] (zv_wI (zK 258 I J P) p j (64))))) := rfl
  have hx := fun (k : Nat → Option zv_R) => (show zv_ix (zK 258 I J P) 0 182 (5 : Int32) k = k 5 from zK_ix (n := 258) (a := 182) (t := 0) (m := 1668) (j := 5) (by decide) rfl (by decide) (by decide))
  rw [e, zK_ob (a := 181) (c := 12) (by decide) rfl, zK_P, hp, zrf, hx, zK_wI]
theorem zx_24 (X : zv_X) (r : List zv_I) {I : zI} {J : zJ} {P : zPP} (hp : P 181 0 = some 182) : zv_exe X 120 (zR X) ((215, .aload_n 0, []) :: (216, .getfield 7, [12, 0, 2]) :: (219, .bipush 6, []) :: (221, .iconst 2, []) :: (222, .iastore, []) :: r) [some (.ref 181)] [] (zK 258 I J P) = zv_exe X 120 (zR X) r [some (.ref 181)] [] (zK 258 (zst I 182 6 (2)) J P) := by
  have e : zv_exe X 120 (zR X) ((215, .aload_n 0, []) :: (216, .getfield 7, [12, 0, 2]) :: (219, .bipush 6, []) :: (221, .iconst 2, []) :: (222, .iastore, []) :: r) [some (.ref 181)] [] (zK 258 I J P) = zv_ob (zK 258 I J P) 12 181 (zv_rf ((zK 258 I J P).2.2.2 181 0) (fun p => zv_ix (zK 258 I J P) 0 p 6 (fun j => zv_exe X 120 (zR X) r [some (.ref 181)] [] (zv_wI (zK 258 I J P) p j (2))))) := rfl
  have hx := fun (k : Nat → Option zv_R) => (show zv_ix (zK 258 I J P) 0 182 (6 : Int32) k = k 6 from zK_ix (n := 258) (a := 182) (t := 0) (m := 1668) (j := 6) (by decide) rfl (by decide) (by decide))
  rw [e, zK_ob (a := 181) (c := 12) (by decide) rfl, zK_P, hp, zrf, hx, zK_wI]
theorem zx_25 (X : zv_X) {I : zI} {J : zJ} {P : zPP} {n : Nat} : zv_exe X 120 (zR X) [(223, .return_, [])] [some (.ref 181)] [] (zK n I J P) = some (none, zK n I J P) := rfl
theorem zi_M (X : zv_X) {I : zI} {J : zJ} {P : zPP} (hc : zcln 181 I J P) : zg_M_init_0 X 181 (zK 182 I J P) = some (none, zK 258 (zst (zst (zst (zst (zst (zst (zst (zst I 181 15 (-1)) 182 0 (1)) 182 1 (1)) 182 2 (4)) 182 3 (8)) 182 4 (8)) 182 5 (64)) 182 6 (2)) J (zPm P 181 258)) := by
  have hE : zpu (zpu (zpu (zpu (zpu (zpu (zprw (zpu (zprw (zpu (zprw (zpu (zprw (zpu (zprw (zpu (zpu (zpu (zpu (zpu (zpu P 181 0 (some 182)) 181 1 (some 183)) 181 2 (some 184)) 181 4 (some 185)) 181 5 (some 186)) 181 6 (some 187)) 188) 181 17 (some 188)) 201) 181 18 (some 201)) 214) 181 19 (some 214)) 227) 181 20 (some 227)) 240) 181 21 (some 240)) 181 22 (some 253)) 181 23 (some 254)) 181 24 (some 255)) 181 31 (some 256)) 181 32 (some 257) = zPm P 181 258 := by
    have hz0 : (List.range 258).all (fun a => decide (a ≤ 181) || decide (a = 188) || decide (a = 201) || decide (a = 214) || decide (a = 227) || decide (a = 240) || (zPL.getD a []).isEmpty) = true := by decide +kernel
    have hz : ∀ a, a < 258 → 181 < a → a ≠ 188 → a ≠ 201 → a ≠ 214 → a ≠ 227 → a ≠ 240 → zPL.getD a [] = [] := fun a a1 a2 n1 n2 n3 n4 n5 => by
      have := List.all_eq_true.mp hz0 a (List.mem_range.mpr a1)
      simp only [Bool.or_eq_true, decide_eq_true_eq] at this
      rcases this with (((((q | q) | q) | q) | q) | q) | q
      · omega
      · exact absurd q n1
      · exact absurd q n2
      · exact absurd q n3
      · exact absurd q n4
      · exact absurd q n5
      · exact List.isEmpty_iff.mp q
    refine zPm_mk (fun a h1 h2 => ?_) ?_ (fun a ha => ?_)
    · skip
      by_cases e : a = 188
      · subst e
        rw [zPr (l := [some 189, some 190, some 191, some 192, some 193, some 194, some 195, some 196, some 197, some 198, some 199, some 200]) (by decide) rfl]
        rw [zpu_ne (by decide), zpu_ne (by decide), zpu_ne (by decide), zpu_ne (by decide), zpu_ne (by decide), zpu_ne (by decide), zprw_ne (by decide), zpu_ne (by decide), zprw_ne (by decide), zpu_ne (by decide), zprw_ne (by decide), zpu_ne (by decide), zprw_ne (by decide), zpu_ne (by decide), zprw_same]
        funext j
        match j with
        | 0 => rfl
        | 1 => rfl
        | 2 => rfl
        | 3 => rfl
        | 4 => rfl
        | 5 => rfl
        | 6 => rfl
        | 7 => rfl
        | 8 => rfl
        | 9 => rfl
        | 10 => rfl
        | 11 => rfl
        | j + 12 => rfl
      · have x188 := e
        clear e
        by_cases e : a = 201
        · subst e
          rw [zPr (l := [some 202, some 203, some 204, some 205, some 206, some 207, some 208, some 209, some 210, some 211, some 212, some 213]) (by decide) rfl]
          rw [zpu_ne (by decide), zpu_ne (by decide), zpu_ne (by decide), zpu_ne (by decide), zpu_ne (by decide), zpu_ne (by decide), zprw_ne (by decide), zpu_ne (by decide), zprw_ne (by decide), zpu_ne (by decide), zprw_ne (by decide), zpu_ne (by decide), zprw_same]
          funext j
          match j with
          | 0 => rfl
          | 1 => rfl
          | 2 => rfl
          | 3 => rfl
          | 4 => rfl
          | 5 => rfl
          | 6 => rfl
          | 7 => rfl
          | 8 => rfl
          | 9 => rfl
          | 10 => rfl
          | 11 => rfl
          | j + 12 => rfl
        · have x201 := e
          clear e
          by_cases e : a = 214
          · subst e
            rw [zPr (l := [some 215, some 216, some 217, some 218, some 219, some 220, some 221, some 222, some 223, some 224, some 225, some 226]) (by decide) rfl]
            rw [zpu_ne (by decide), zpu_ne (by decide), zpu_ne (by decide), zpu_ne (by decide), zpu_ne (by decide), zpu_ne (by decide), zprw_ne (by decide), zpu_ne (by decide), zprw_ne (by decide), zpu_ne (by decide), zprw_same]
            funext j
            match j with
            | 0 => rfl
            | 1 => rfl
            | 2 => rfl
            | 3 => rfl
            | 4 => rfl
            | 5 => rfl
            | 6 => rfl
            | 7 => rfl
            | 8 => rfl
            | 9 => rfl
            | 10 => rfl
            | 11 => rfl
            | j + 12 => rfl
          · have x214 := e
            clear e
            by_cases e : a = 227
            · subst e
              rw [zPr (l := [some 228, some 229, some 230, some 231, some 232, some 233, some 234, some 235, some 236, some 237, some 238, some 239]) (by decide) rfl]
              rw [zpu_ne (by decide), zpu_ne (by decide), zpu_ne (by decide), zpu_ne (by decide), zpu_ne (by decide), zpu_ne (by decide), zprw_ne (by decide), zpu_ne (by decide), zprw_same]
              funext j
              match j with
              | 0 => rfl
              | 1 => rfl
              | 2 => rfl
              | 3 => rfl
              | 4 => rfl
              | 5 => rfl
              | 6 => rfl
              | 7 => rfl
              | 8 => rfl
              | 9 => rfl
              | 10 => rfl
              | 11 => rfl
              | j + 12 => rfl
            · have x227 := e
              clear e
              by_cases e : a = 240
              · subst e
                rw [zPr (l := [some 241, some 242, some 243, some 244, some 245, some 246, some 247, some 248, some 249, some 250, some 251, some 252]) (by decide) rfl]
                rw [zpu_ne (by decide), zpu_ne (by decide), zpu_ne (by decide), zpu_ne (by decide), zpu_ne (by decide), zpu_ne (by decide), zprw_same]
                funext j
                match j with
                | 0 => rfl
                | 1 => rfl
                | 2 => rfl
                | 3 => rfl
                | 4 => rfl
                | 5 => rfl
                | 6 => rfl
                | 7 => rfl
                | 8 => rfl
                | 9 => rfl
                | 10 => rfl
                | 11 => rfl
                | j + 12 => rfl
              · have x240 := e
                clear e
                rw [zpu_ne (by omega), zpu_ne (by omega), zpu_ne (by omega), zpu_ne (by omega), zpu_ne (by omega), zpu_ne (by omega), zprw_ne (by omega), zpu_ne (by omega), zprw_ne (by omega), zpu_ne (by omega), zprw_ne (by omega), zpu_ne (by omega), zprw_ne (by omega), zpu_ne (by omega), zprw_ne (by omega), zpu_ne (by omega), zpu_ne (by omega), zpu_ne (by omega), zpu_ne (by omega), zpu_ne (by omega), zpu_ne (by omega), (hc a (by omega)).2.2]
                exact (zPr0 (by omega) (hz a h2 h1 x188 x201 x214 x227 x240)).symm
    · skip
      rw [zPr (l := [some 182, some 183, some 184, none, some 185, some 186, some 187, none, none, none, none, none, none, none, none, none, none, some 188, some 201, some 214, some 227, some 240, some 253, some 254, some 255, none, none, none, none, none, none, some 256, some 257]) (by decide) rfl]
      rw [zpu_same, zpu_same, zpu_same, zpu_same, zpu_same, zpu_same, zprw_ne (by decide), zpu_same, zprw_ne (by decide), zpu_same, zprw_ne (by decide), zpu_same, zprw_ne (by decide), zpu_same, zprw_ne (by decide), zpu_same, zpu_same, zpu_same, zpu_same, zpu_same, zpu_same, (hc 181 (by decide)).2.2]
      funext j
      match j with
      | 0 => rfl
      | 1 => rfl
      | 2 => rfl
      | 3 => rfl
      | 4 => rfl
      | 5 => rfl
      | 6 => rfl
      | 7 => rfl
      | 8 => rfl
      | 9 => rfl
      | 10 => rfl
      | 11 => rfl
      | 12 => rfl
      | 13 => rfl
      | 14 => rfl
      | 15 => rfl
      | 16 => rfl
      | 17 => rfl
      | 18 => rfl
      | 19 => rfl
      | 20 => rfl
      | 21 => rfl
      | 22 => rfl
      | 23 => rfl
      | 24 => rfl
      | 25 => rfl
      | 26 => rfl
      | 27 => rfl
      | 28 => rfl
      | 29 => rfl
      | 30 => rfl
      | 31 => rfl
      | 32 => rfl
      | j + 33 => rfl
    · rw [zpu_ne (by omega), zpu_ne (by omega), zpu_ne (by omega), zpu_ne (by omega), zpu_ne (by omega), zpu_ne (by omega), zprw_ne (by omega), zpu_ne (by omega), zprw_ne (by omega), zpu_ne (by omega), zprw_ne (by omega), zpu_ne (by omega), zprw_ne (by omega), zpu_ne (by omega), zprw_ne (by omega), zpu_ne (by omega), zpu_ne (by omega), zpu_ne (by omega), zpu_ne (by omega), zpu_ne (by omega), zpu_ne (by omega)]
  have c0 : zcln 182 I J P := zcln_le hc (by decide)
  have c1 : zcln 183 I J (zpu P 181 0 (some 182)) := zcln_wP (zcln_le c0 (by decide)) (by decide)
  have c2 : zcln 184 I J (zpu (zpu P 181 0 (some 182)) 181 1 (some 183)) := zcln_wP (zcln_le c1 (by decide)) (by decide)
  have c3 : zcln 185 I J (zpu (zpu (zpu P 181 0 (some 182)) 181 1 (some 183)) 181 2 (some 184)) := zcln_wP (zcln_le c2 (by decide)) (by decide)
  have c4 : zcln 186 I J (zpu (zpu (zpu (zpu P 181 0 (some 182)) 181 1 (some 183)) 181 2 (some 184)) 181 4 (some 185)) := zcln_wP (zcln_le c3 (by decide)) (by decide)
  have c5 : zcln 187 I J (zpu (zpu (zpu (zpu (zpu P 181 0 (some 182)) 181 1 (some 183)) 181 2 (some 184)) 181 4 (some 185)) 181 5 (some 186)) := zcln_wP (zcln_le c4 (by decide)) (by decide)
  have c6 : zcln 188 I J (zpu (zpu (zpu (zpu (zpu (zpu P 181 0 (some 182)) 181 1 (some 183)) 181 2 (some 184)) 181 4 (some 185)) 181 5 (some 186)) 181 6 (some 187)) := zcln_wP (zcln_le c5 (by decide)) (by decide)
  have c7 : zcln 188 (zst I 181 15 (-1)) J (zpu (zpu (zpu (zpu (zpu (zpu P 181 0 (some 182)) 181 1 (some 183)) 181 2 (some 184)) 181 4 (some 185)) 181 5 (some 186)) 181 6 (some 187)) := zcln_st c6 (by decide)
  have c8 : zcln 201 (zst I 181 15 (-1)) J (zpu (zprw (zpu (zpu (zpu (zpu (zpu (zpu P 181 0 (some 182)) 181 1 (some 183)) 181 2 (some 184)) 181 4 (some 185)) 181 5 (some 186)) 181 6 (some 187)) 188) 181 17 (some 188)) := zcln_wP (zcln_prw c7 (by decide) (by decide)) (by decide)
  have c9 : zcln 214 (zst I 181 15 (-1)) J (zpu (zprw (zpu (zprw (zpu (zpu (zpu (zpu (zpu (zpu P 181 0 (some 182)) 181 1 (some 183)) 181 2 (some 184)) 181 4 (some 185)) 181 5 (some 186)) 181 6 (some 187)) 188) 181 17 (some 188)) 201) 181 18 (some 201)) := zcln_wP (zcln_prw c8 (by decide) (by decide)) (by decide)
  have c10 : zcln 227 (zst I 181 15 (-1)) J (zpu (zprw (zpu (zprw (zpu (zprw (zpu (zpu (zpu (zpu (zpu (zpu P 181 0 (some 182)) 181 1 (some 183)) 181 2 (some 184)) 181 4 (some 185)) 181 5 (some 186)) 181 6 (some 187)) 188) 181 17 (some 188)) 201) 181 18 (some 201)) 214) 181 19 (some 214)) := zcln_wP (zcln_prw c9 (by decide) (by decide)) (by decide)
  have c11 : zcln 240 (zst I 181 15 (-1)) J (zpu (zprw (zpu (zprw (zpu (zprw (zpu (zprw (zpu (zpu (zpu (zpu (zpu (zpu P 181 0 (some 182)) 181 1 (some 183)) 181 2 (some 184)) 181 4 (some 185)) 181 5 (some 186)) 181 6 (some 187)) 188) 181 17 (some 188)) 201) 181 18 (some 201)) 214) 181 19 (some 214)) 227) 181 20 (some 227)) := zcln_wP (zcln_prw c10 (by decide) (by decide)) (by decide)
  have c12 : zcln 253 (zst I 181 15 (-1)) J (zpu (zprw (zpu (zprw (zpu (zprw (zpu (zprw (zpu (zprw (zpu (zpu (zpu (zpu (zpu (zpu P 181 0 (some 182)) 181 1 (some 183)) 181 2 (some 184)) 181 4 (some 185)) 181 5 (some 186)) 181 6 (some 187)) 188) 181 17 (some 188)) 201) 181 18 (some 201)) 214) 181 19 (some 214)) 227) 181 20 (some 227)) 240) 181 21 (some 240)) := zcln_wP (zcln_prw c11 (by decide) (by decide)) (by decide)
  have c13 : zcln 254 (zst I 181 15 (-1)) J (zpu (zpu (zprw (zpu (zprw (zpu (zprw (zpu (zprw (zpu (zprw (zpu (zpu (zpu (zpu (zpu (zpu P 181 0 (some 182)) 181 1 (some 183)) 181 2 (some 184)) 181 4 (some 185)) 181 5 (some 186)) 181 6 (some 187)) 188) 181 17 (some 188)) 201) 181 18 (some 201)) 214) 181 19 (some 214)) 227) 181 20 (some 227)) 240) 181 21 (some 240)) 181 22 (some 253)) := zcln_wP (zcln_le c12 (by decide)) (by decide)
  have c14 : zcln 255 (zst I 181 15 (-1)) J (zpu (zpu (zpu (zprw (zpu (zprw (zpu (zprw (zpu (zprw (zpu (zprw (zpu (zpu (zpu (zpu (zpu (zpu P 181 0 (some 182)) 181 1 (some 183)) 181 2 (some 184)) 181 4 (some 185)) 181 5 (some 186)) 181 6 (some 187)) 188) 181 17 (some 188)) 201) 181 18 (some 201)) 214) 181 19 (some 214)) 227) 181 20 (some 227)) 240) 181 21 (some 240)) 181 22 (some 253)) 181 23 (some 254)) := zcln_wP (zcln_le c13 (by decide)) (by decide)
  have c15 : zcln 256 (zst I 181 15 (-1)) J (zpu (zpu (zpu (zpu (zprw (zpu (zprw (zpu (zprw (zpu (zprw (zpu (zprw (zpu (zpu (zpu (zpu (zpu (zpu P 181 0 (some 182)) 181 1 (some 183)) 181 2 (some 184)) 181 4 (some 185)) 181 5 (some 186)) 181 6 (some 187)) 188) 181 17 (some 188)) 201) 181 18 (some 201)) 214) 181 19 (some 214)) 227) 181 20 (some 227)) 240) 181 21 (some 240)) 181 22 (some 253)) 181 23 (some 254)) 181 24 (some 255)) := zcln_wP (zcln_le c14 (by decide)) (by decide)
  have c16 : zcln 257 (zst I 181 15 (-1)) J (zpu (zpu (zpu (zpu (zpu (zprw (zpu (zprw (zpu (zprw (zpu (zprw (zpu (zprw (zpu (zpu (zpu (zpu (zpu (zpu P 181 0 (some 182)) 181 1 (some 183)) 181 2 (some 184)) 181 4 (some 185)) 181 5 (some 186)) 181 6 (some 187)) 188) 181 17 (some 188)) 201) 181 18 (some 201)) 214) 181 19 (some 214)) 227) 181 20 (some 227)) 240) 181 21 (some 240)) 181 22 (some 253)) 181 23 (some 254)) 181 24 (some 255)) 181 31 (some 256)) := zcln_wP (zcln_le c15 (by decide)) (by decide)
  have c17 : zcln 258 (zst I 181 15 (-1)) J (zpu (zpu (zpu (zpu (zpu (zpu (zprw (zpu (zprw (zpu (zprw (zpu (zprw (zpu (zprw (zpu (zpu (zpu (zpu (zpu (zpu P 181 0 (some 182)) 181 1 (some 183)) 181 2 (some 184)) 181 4 (some 185)) 181 5 (some 186)) 181 6 (some 187)) 188) 181 17 (some 188)) 201) 181 18 (some 201)) 214) 181 19 (some 214)) 227) 181 20 (some 227)) 240) 181 21 (some 240)) 181 22 (some 253)) 181 23 (some 254)) 181 24 (some 255)) 181 31 (some 256)) 181 32 (some 257)) := zcln_wP (zcln_le c16 (by decide)) (by decide)
  rw [zMi_s, zMi, zx_1 X _ c0, zx_2 X _ c1, zx_3 X _ c2, zx_4 X _ c3, zx_5 X _ c4, zx_6 X _ c5, zx_7 X _, zx_8 X _ c7, zx_9 X _ c8, zx_10 X _ c9, zx_11 X _ c10, zx_12 X _ c11, zx_13 X _ c12, zx_14 X _ c13, zx_15 X _ c14, zx_16 X _ c15, zx_17 X _ c16, zx_18 X _ rfl, zx_19 X _ rfl, zx_20 X _ rfl, zx_21 X _ rfl, zx_22 X _ rfl, zx_23 X _ rfl, zx_24 X _ rfl, zx_25 X, hE]
