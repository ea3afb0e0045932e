/-! what changes the state: pieces of it -/
section ZCH
variable {f f' : Nat → Int32} {K A U : zKL} {R : List Int32} {G : Nat → Int32} {P : List (Nat × Nat)} {B : List zBX}
theorem zMA_fr (h : ∀ i, i = 11 ∨ i = 12 ∨ (1220 ≤ i ∧ i < 1300) → f' i = f i) (hl : A.length + U.length ≤ 20) (hm : zMA f A U) : zMA f' A U := by
  obtain ⟨a1, a2, a3, a4⟩ := hm
  refine ⟨by rw [h 11 (by omega)]; exact a1, by rw [h 12 (by omega)]; exact a2, fun i q hq => ?_, fun i q hq => ?_⟩
  · have hi : i < A.length := (List.getElem?_eq_some_iff.mp hq).1
    rw [h _ (by omega), h _ (by omega)]
    exact a3 i q hq
  · have hi : i < U.reverse.length := (List.getElem?_eq_some_iff.mp hq).1
    rw [List.length_reverse] at hi
    rw [h _ (by omega), h _ (by omega)]
    exact a4 i q hq
theorem zMG_fr (h : ∀ i, 1540 ≤ i → f' i = f i) (hm : zMG f G) : zMG f' G := fun c hc => by
  rw [h _ (by omega), h _ (by omega)]
  exact hm c hc
theorem zMP_fr (h : ∀ i, i = 13 ∨ i = 14 ∨ (1300 ≤ i ∧ i < 1540) → f' i = f i) (hk : zPok P B) (hm : zMP f P B) : zMP f' P B := by
  obtain ⟨a1, a2, a3, a4⟩ := hm
  have k1 := hk.1
  have k2 := hk.2.1
  refine ⟨by rw [h 13 (by omega)]; exact a1, by rw [h 14 (by omega)]; exact a2, fun i q hq => ?_, fun i q hq => ?_⟩
  · have hi : i < P.length := (List.getElem?_eq_some_iff.mp hq).1
    rw [h _ (by omega), h _ (by omega)]
    exact a3 i q hq
  · have hi : i < B.length := (List.getElem?_eq_some_iff.mp hq).1
    rw [h _ (by omega), h _ (by omega), h _ (by omega), h _ (by omega)]
    exact a4 i q hq
theorem zMK_fr (h : ∀ i, i = 8 ∨ i = 9 ∨ (20 ≤ i ∧ i < 1220) → f' i = f i) (hr : zKR K R) (hm : zMK f K R) : zMK f' K R := by
  obtain ⟨a1, a2, a3, a4, a5, a6⟩ := hm
  have l1 := hr.2.2.2.1
  have l2 := zWt_len K R
  have l3 := hr.2.2.1
  refine ⟨by rw [h 8 (by omega)]; exact a1, by rw [h 9 (by omega)]; exact a2, fun j v hj => ?_, fun j v hj => ?_, fun j v hj => ?_, fun j v hj => ?_⟩
  · have hi := (List.getElem?_eq_some_iff.mp hj).1
    exact (h (20 + j) (by omega)).trans (a3 j v hj)
  · have hi := (List.getElem?_eq_some_iff.mp hj).1
    rw [List.length_map] at hi
    exact (h (320 + j) (by omega)).trans (a4 j v hj)
  · have hi := (List.getElem?_eq_some_iff.mp hj).1
    rw [List.length_map] at hi
    exact (h (620 + j) (by omega)).trans (a5 j v hj)
  · have hi := (List.getElem?_eq_some_iff.mp hj).1
    rw [List.length_map] at hi
    exact (h (920 + j) (by omega)).trans (a6 j v hj)
theorem zset_set {x u v : Int32} (hs : zSrt K) : zset x v (zset x u K) = zset x v K := by
  obtain ⟨A, B, h1, h2, hw⟩ := zways x K hs
  rcases hw with ⟨hw, -, hz⟩ | ⟨c, hw, -, hz⟩
  · rw [hz u, hz v]
    by_cases d : u = 0
    · rw [if_pos d, zset_mid0 h1 h2]
    · rw [if_neg d, zset_mid1 h1]
  · rw [hz u, hz v]
    by_cases d : u = 0
    · rw [if_pos d, zset_mid0 h1 h2]
    · rw [if_neg d, zset_mid1 h1]
theorem zset_own {x : Int32} (h : zKV K) : zset x (zcnt x K) K = K := by
  obtain ⟨A, B, h1, h2, hw⟩ := zways x K h.1
  rcases hw with ⟨hw, h0, hz⟩ | ⟨c, hw, hc, hz⟩
  · rw [h0, hz 0, if_pos rfl, ← hw]
  · have : c ≠ 0 := fun e => by
      have := h.2.2.1 (x, c) (by rw [hw]; simp)
      rw [e] at this
      exact absurd this.1 (by show ¬ (1 : Int) ≤ (0 : Int32).toInt; decide)
    rw [hc, hz c, if_neg this, ← hw]
theorem zSp_mk {x y : Int32} (h : zKV K) (hy : y = 1 ∨ y = -1) (h2 : zKV (zset x (zcnt x K + y) K)) (h3 : zcnt x K = 0 → y = 1) : zSp K (x, y) (zset x (zcnt x K + y) K) := by
  have ec : zcnt x (zset x (zcnt x K + y) K) = zcnt x K + y := by rw [zcnt_set h.1, if_pos rfl]
  refine ⟨h, h2, hy, rfl, ?_, h3, ec⟩
  show K = zset x (zcnt x (zset x (zcnt x K + y) K) - y) (zset x (zcnt x K + y) K)
  rw [ec, zset_set h.1, Int32.add_sub_cancel, zset_own h]
theorem zPth_snoc {q : Int32 × Int32} {K' : zKL} : ∀ {L : zKL} {K0 K : zKL}, zPth K0 L K → zSp K q K' → zPth K0 (L ++ [q]) K'
  | [], K0, K, h, hs => ⟨K', by rw [show K0 = K from h]; exact hs, rfl⟩
  | p :: L, K0, K, ⟨K1, h1, h2⟩, hs => ⟨K1, h1, zPth_snoc h2 hs⟩
theorem zPth_last {q : Int32 × Int32} {K : zKL} : ∀ {L : zKL} {K0 : zKL}, zPth K0 (L ++ [q]) K → ∃ K', zPth K0 L K' ∧ zSp K' q K
  | [], K0, ⟨K1, h1, h2⟩ => ⟨K0, rfl, by rw [show K = K1 from (show K1 = K from h2).symm]; exact h1⟩
  | p :: L, K0, ⟨K1, h1, h2⟩ => by
    obtain ⟨K', g1, g2⟩ := zPth_last h2
    exact ⟨K', ⟨K1, h1, g1⟩, g2⟩
theorem zPth_act {x y : Int32} {K0 K' : zKL} (h : zPth K0 A K) (hs : zSp K (x, y) K') : ∃ K1, zPth K1 (zAct A x y) K' := by
  unfold zAct
  split
  · cases A with
    | nil => exact ⟨K0, zPth_snoc h hs⟩
    | cons a A =>
      obtain ⟨K1, -, h2⟩ := h
      exact ⟨K1, zPth_snoc h2 hs⟩
  · exact ⟨K0, zPth_snoc h hs⟩
end ZCH
/-- the object's lasting parts, but for the levels -/
def zCJ (t : zST) (I : zI) : Prop := zCS I 0 t.1 ∧ zCim I t.2.1 ∧ zTO I t.2.2.1 t.2.2.2.1 ∧ I 31 4 = t.2.2.2.2.1 ∧ I 31 5 = t.2.2.2.2.2
theorem zCJ_of {t : zST} {I : zI} {J : zJ} (h : zCI t I J) : zCJ t I := ⟨h.1, h.2.2⟩
section ZCB
variable (X : zv_X) {b : Bool}
theorem zCim_fr {I I' : zI} {m : Option zS} (h0 : I' 0 2 = I 0 2) (h : ∀ a, 16 ≤ a → a ≤ 30 → I' a = I a) (hc : zCim I m) : zCim I' m := by
  cases m with
  | none => show I' 0 2 = 0; rw [h0]; exact hc
  | some s => exact ⟨by rw [h0]; exact hc.1, zCS_fr (fun a a1 a2 => h a (by omega) (by omega)) hc.2⟩
theorem zCJ_chg {s s' : zS} {r : Option zS × (Nat → Nat) × Nat × Int32 × Int32} {I I' : zI} (h : zCJ (s, r) I) (h1 : zCS I' 0 s') (hf : ∀ a, a = 0 ∨ (16 ≤ a ∧ a ≤ 32) → I' a = I a) : zCJ (s', r) I' :=
  ⟨h1, zCim_fr (by rw [hf 0 (by omega)]) (fun a a1 a2 => hf a (by omega)) h.2.1, zTO_fr h.2.2.1 (by rw [hf 31 (by omega)]) (hf 32 (by omega)), by rw [hf 31 (by omega)]; exact h.2.2.2.1, by rw [hf 31 (by omega)]; exact h.2.2.2.2⟩
/-- all is built anew -/
theorem c_buildAll {K : zKL} {R : List Int32} {T : zTT} {C : Int32} {A U : zKL} {G : Nat → Int32} {P : List (Nat × Nat)} {B : List zBX} {r : Option zS × (Nat → Nat) × Nat × Int32 × Int32} {I : zI} {J : zJ} (h : zCJ ((K, R, T, C, A, U, G, P, B), r) I) (hK : zKV K) (hT : zTok T) : ∃ I' J', zg_GP_buildAll_0 X 0 (zM b I J) = some (none, zM b I' J') ∧ zCI ((K, K.map (·.1), T, C + Int32.ofNat K.length, A, U, G, P, B), r) I' J' ∧ (∀ a, 109 ≤ a → I' a = I a) ∧ I' 1 2 = Int32.ofNat K.length := by
  obtain ⟨s1, s2, s3, s4, s5, s6, s7, s8⟩ := h.1
  have s1' : zKeys I 2 K := s1
  have s4' : ∀ j, j < 8 → I 6 j = T j := s4
  have s5' : I 1 4 = C := s5
  obtain ⟨I1, a1, a2, a3, a4, a5, a6⟩ := c_standAll X (b := b) (J := J) s1'
  have t0 : (0 : Int) ≤ (T 0).toInt ∧ (T 0).toInt ≤ 20 := hT 0 (by decide)
  have t1 : (0 : Int) ≤ (T 1).toInt ∧ (T 1).toInt ≤ 20 := hT 1 (by decide)
  have e0 : T 0 = Int32.ofNat (T 0).toInt.toNat := zofN t0.1
  have e1 : T 1 = Int32.ofNat (T 1).toInt.toNat := zofN t1.1
  have hf : zfb (zrf' (K.map (·.1))) := zrf_fb (fun x hx => by
    obtain ⟨q, hq, rfl⟩ := List.mem_map.mp hx
    exact hK.2.2.2 q hq)
  have hu : zupto (zrf' (K.map (·.1))) (K.map (·.1)).length := zrf_up (zSrt_map hK.1)
  have hlen : (K.map (·.1)).length = K.length := List.length_map ..
  obtain ⟨I2, J2, H, b1, b2, b3⟩ := c_over X (b := b) (I := I1) (J := J) (cv := 40) (n := (K.map (·.1)).length) (e := (T 0).toInt.toNat) (u := (T 1).toInt.toNat) (ar := 5) (N := 300) (f := zrf' (K.map (·.1))) (zCvS_40 b) hf hu (by rw [hlen]; exact hK.2.1) (by omega) (by omega) rfl (by decide) (by rw [hlen]; exact hK.2.1) (Or.inl (by decide)) (zrow_i a3)
  have hH : H ≤ 9 := zHt_9 hu (by rw [hlen]; exact hK.2.1) b2.2.1
  have i1 : ∀ a, a < 40 → a ≠ 1 → a ≠ 5 → I2 a = I a := fun a ha h1 h5 => by rw [(b3 a (by omega)).1, a5 a h1 h5]
  have w1 : I2 1 = I1 1 := (b3 1 (by omega)).1
  have w5 : I2 5 = I1 5 := (b3 5 (by omega)).1
  refine ⟨I2, J2, ?_, ⟨⟨?_, ?_, ?_, ?_, ?_, ?_, ?_, ?_⟩, ⟨H, hH, b2⟩, zCim_fr (by rw [i1 0 (by decide) (by decide) (by decide)]) (fun a a1 a2 => i1 a (by omega) (by omega) (by omega)) h.2.1, zTO_fr h.2.2.1 (by rw [i1 31 (by decide) (by decide) (by decide)]) (i1 32 (by decide) (by decide) (by decide)), by rw [i1 31 (by decide) (by decide) (by decide)]; exact h.2.2.2.1, by rw [i1 31 (by decide) (by decide) (by decide)]; exact h.2.2.2.2⟩, fun a ha => by rw [(b3 a (by omega)).1, a5 a (by omega) (by omega)], by rw [w1]; exact a2⟩
  · rw [zg_GP_buildAll_0_e, zo0, zM_P, zp0_0, zrf, zo1, a1, zcv, zo0, zM_P, zp0_4, zrf, zo0, zp0_0, zrf, zo1, zp1_1, zrf, zo0, zrf, zo1, zo0, zrf, zo1, zp1_3, zrf, zx6_0, zo0, zrf, zo1, zp1_3, zrf, zx6_1, zo40, zM_I, a2, a5 6 (by decide) (by decide), s4' 0 (by decide), s4' 1 (by decide), e0, e1]
    rw [hlen] at b1
    rw [← e0, ← e1] at b1 ⊢
    rw [b1, zcv]
  · show zKeys I2 2 K
    unfold zKeys at *
    rw [i1 2 (by decide) (by decide) (by decide), i1 (2 + 1) (by decide) (by decide) (by decide), i1 (2 + 2) (by decide) (by decide) (by decide)]
    exact s1'
  · show I2 1 2 = Int32.ofNat (K.map (·.1)).length
    rw [w1, hlen]; exact a2
  · show zrow (I2 5) (K.map (·.1))
    rw [w5]; exact a3
  · show ∀ j, j < 8 → I2 6 j = T j
    rw [i1 6 (by decide) (by decide) (by decide)]; exact s4'
  · show I2 1 4 = C + Int32.ofNat K.length
    rw [w1, a4, s5']
  · show zCA I2 0 A U
    unfold zCA at *
    rw [i1 (7 + 0) (by decide) (by decide) (by decide), i1 (8 + 0) (by decide) (by decide) (by decide), i1 (9 + 0) (by decide) (by decide) (by decide)]
    exact s6
  · show zCG I2 0 G
    unfold zCG at *
    rw [i1 (11 + 0) (by decide) (by decide) (by decide)]
    exact s7
  · show zCP I2 0 P B
    unfold zCP at *
    rw [i1 (12 + 0) (by decide) (by decide) (by decide), i1 (13 + 0) (by decide) (by decide) (by decide), i1 (14 + 0) (by decide) (by decide) (by decide), i1 (15 + 0) (by decide) (by decide) (by decide)]
    exact s8
theorem zRv_own {K : zKL} (h : zKV K) : zRv (K.map (·.1)) ∧ ∀ r ∈ K.map (·.1), -999999999 ≤ r.toInt ∧ r.toInt ≤ 999999999 := by
  refine ⟨⟨zSrt_map h.1, by rw [List.length_map]; exact h.2.1⟩, fun r hr => ?_⟩
  obtain ⟨q, hq, rfl⟩ := List.mem_map.mp hr
  exact h.2.2.2 q hq
/-- a state's parts replaced, cell by cell -/
theorem zCS_acts {K : zKL} {R : List Int32} {T : zTT} {C : Int32} {A U A' U' : zKL} {G : Nat → Int32} {P : List (Nat × Nat)} {B : List zBX} {I I' : zI} (h : zCS I 0 (K, R, T, C, A, U, G, P, B)) (ha : zCA I' 0 A' U') (hf : ∀ a, 1 ≤ a → a ≤ 15 → a ≠ 7 → a ≠ 8 → a ≠ 9 → I' a = I a) : zCS I' 0 (K, R, T, C, A', U', G, P, B) := by
  obtain ⟨s1, s2, s3, s4, s5, s6, s7, s8⟩ := h
  refine ⟨?_, ?_, ?_, ?_, ?_, ha, ?_, ?_⟩
  · show zKeys I' 2 K
    unfold zKeys at *
    rw [hf 2 (by decide) (by decide) (by decide) (by decide) (by decide), hf (2 + 1) (by decide) (by decide) (by decide) (by decide) (by decide), hf (2 + 2) (by decide) (by decide) (by decide) (by decide) (by decide)]
    exact s1
  · show I' 1 2 = _
    rw [hf 1 (by decide) (by decide) (by decide) (by decide) (by decide)]; exact s2
  · show zrow (I' 5) R
    rw [hf 5 (by decide) (by decide) (by decide) (by decide) (by decide)]; exact s3
  · show ∀ j, j < 8 → I' 6 j = T j
    rw [hf 6 (by decide) (by decide) (by decide) (by decide) (by decide)]; exact s4
  · show I' 1 4 = C
    rw [hf 1 (by decide) (by decide) (by decide) (by decide) (by decide)]; exact s5
  · show zCG I' 0 G
    unfold zCG at *
    rw [hf (11 + 0) (by decide) (by decide) (by decide) (by decide) (by decide)]; exact s7
  · show zCP I' 0 P B
    unfold zCP at *
    rw [hf (12 + 0) (by decide) (by decide) (by decide) (by decide) (by decide), hf (13 + 0) (by decide) (by decide) (by decide) (by decide) (by decide), hf (14 + 0) (by decide) (by decide) (by decide) (by decide) (by decide), hf (15 + 0) (by decide) (by decide) (by decide) (by decide) (by decide)]
    exact s8
theorem zCS_keys {K K' : zKL} {R : List Int32} {T : zTT} {C : Int32} {A U : zKL} {G : Nat → Int32} {P : List (Nat × Nat)} {B : List zBX} {I I' : zI} (h : zCS I 0 (K, R, T, C, A, U, G, P, B)) (ha : zKeys I' 2 K') (ho : zoff3 I I' 2) : zCS I' 0 (K', R, T, C, A, U, G, P, B) := by
  obtain ⟨s1, s2, s3, s4, s5, s6, s7, s8⟩ := h
  refine ⟨ha, ?_, ?_, ?_, ?_, ?_, ?_, ?_⟩
  · show I' 1 2 = _
    rw [ho 1 (by decide) (by decide) (by decide)]; exact s2
  · show zrow (I' 5) R
    rw [ho 5 (by decide) (by decide) (by decide)]; exact s3
  · show ∀ j, j < 8 → I' 6 j = T j
    rw [ho 6 (by decide) (by decide) (by decide)]; exact s4
  · show I' 1 4 = C
    rw [ho 1 (by decide) (by decide) (by decide)]; exact s5
  · show zCA I' 0 A U
    unfold zCA at *
    rw [ho (7 + 0) (by decide) (by decide) (by decide), ho (8 + 0) (by decide) (by decide) (by decide), ho (9 + 0) (by decide) (by decide) (by decide)]; exact s6
  · show zCG I' 0 G
    unfold zCG at *
    rw [ho (11 + 0) (by decide) (by decide) (by decide)]; exact s7
  · show zCP I' 0 P B
    unfold zCP at *
    rw [ho (12 + 0) (by decide) (by decide) (by decide), ho (13 + 0) (by decide) (by decide) (by decide), ho (14 + 0) (by decide) (by decide) (by decide), ho (15 + 0) (by decide) (by decide) (by decide)]
    exact s8
theorem zCov_lo {I I' : zI} {J J' : zJ} {R : List Int32} {e u : Nat} (h : ∃ H, H ≤ 9 ∧ zCov I J 40 (zrf' R) R.length e u H) (hf : ∀ a, 40 ≤ a → a ≤ 108 → I' a = I a ∧ J' a = J a) : ∃ H, H ≤ 9 ∧ zCov I' J' 40 (zrf' R) R.length e u H := by
  obtain ⟨H, hH, c1, c2, c3, c4⟩ := h
  exact ⟨H, hH, by rw [(hf 40 (by decide) (by decide)).1]; exact c1, c2, zLv0_frame c3 (fun a a1 a2 => hf a (by omega) (by omega)), fun l hl => zLv_frame (c4 l hl) (fun a a1 a2 => hf a (by omega) (by omega))⟩
theorem c_forget2 {K : zKL} {R : List Int32} {T : zTT} {C : Int32} {A U : zKL} {G : Nat → Int32} {P : List (Nat × Nat)} {B : List zBX} {r : Option zS × (Nat → Nat) × Nat × Int32 × Int32} {I : zI} (h : zCJ ((K, R, T, C, A, U, G, P, B), r) I) : zCJ ((K, R, T, C, [], [], G, P, B), r) (zst (zst I 7 2 0) 7 3 0) := by
  refine zCJ_chg h (zCS_acts h.1 ⟨?_, ?_, fun j v hj => by simp at hj, fun j v hj => by simp at hj⟩ (fun a _ _ h7 _ _ => by rw [zst_ne h7, zst_ne h7])) (fun a ha => by rw [zst_ne (by omega), zst_ne (by omega)])
  · show zst (zst I 7 2 0) 7 3 0 7 2 = Int32.ofNat 0
    rw [zst_off (by decide), zst_self]; rfl
  · show zst (zst I 7 2 0) 7 3 0 7 3 = Int32.ofNat 0
    rw [zst_self]; rfl
end ZCB
