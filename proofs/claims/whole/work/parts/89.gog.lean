/-! the row with gaps; points and boxes -/
section ZGG
variable (X : zv_X)
variable {K : zKL} {R : List Int32} {T : zTT} {C : Int32} {A U : zKL} {G : Nat → Int32} {P : List (Nat × Nat)} {B : List zBX} {r : zRr} {I : zI} {J : zJ} {b : Bool}
theorem zlayG_at {L : List Int32} {m : Nat} : ∀ k i, zlayG L m k i = zN ∨ ∃ j, j < k ∧ i = 64 * j / m ∧ zlayG L m k i = L.getD j 0
  | 0, i => Or.inl rfl
  | k + 1, i => by
    unfold zlayG zgu
    by_cases c : i = 64 * k / m
    · rw [if_pos c]
      exact Or.inr ⟨k, by omega, c, rfl⟩
    · rw [if_neg c]
      rcases zlayG_at (L := L) (m := m) k i with q | ⟨j, j1, j2, j3⟩
      · exact Or.inl q
      · exact Or.inr ⟨j, by omega, j2, j3⟩
theorem zgs_lay {L : List Int32} {m : Nat} (hs : L.Pairwise (· < ·)) (hm : m ≤ L.length) : zgs (zlayG L m m) := by
  intro i j hij _ hi hj
  obtain ⟨a, a1, a2, a3⟩ := (zlayG_at (L := L) (m := m) m i).resolve_left hi
  obtain ⟨c, c1, c2, c3⟩ := (zlayG_at (L := L) (m := m) m j).resolve_left hj
  have hac : a < c := by
    rcases Nat.lt_or_ge a c with w | w
    · exact w
    · have : 64 * c / m ≤ 64 * a / m := Nat.div_le_div_right (by omega)
      omega
  rw [a3, c3, List.getD_eq_getElem?_getD, List.getElem?_eq_getElem (show a < L.length by omega), List.getD_eq_getElem?_getD, List.getElem?_eq_getElem (show c < L.length by omega)]
  exact List.pairwise_iff_getElem.mp hs a c (by omega) (by omega) hac
theorem zCS_gaps {G' : Nat → Int32} {I' : zI} (h : zCS I 0 (K, R, T, C, A, U, G, P, B)) (hg : zCG I' 0 G') (hf : ∀ a, a ≠ 11 → I' a = I a) : zCS I' 0 (K, R, T, C, A, U, G', P, B) := by
  obtain ⟨s1, s2, s3, s4, s5, s6, s7, s8⟩ := h
  refine ⟨?_, ?_, ?_, ?_, ?_, ?_, hg, ?_⟩
  · show zKeys I' 2 K
    unfold zKeys at *
    rw [hf 2 (by decide), hf (2 + 1) (by decide), hf (2 + 2) (by decide)]; exact s1
  · show I' 1 2 = _
    rw [hf 1 (by decide)]; exact s2
  · show zrow (I' 5) R
    rw [hf 5 (by decide)]; exact s3
  · show ∀ j, j < 8 → I' 6 j = T j
    rw [hf 6 (by decide)]; exact s4
  · show I' 1 4 = C
    rw [hf 1 (by decide)]; exact s5
  · show zCA I' 0 A U
    unfold zCA at *
    rw [hf (7 + 0) (by decide), hf (8 + 0) (by decide), hf (9 + 0) (by decide)]; exact s6
  · show zCP I' 0 P B
    unfold zCP at *
    rw [hf (12 + 0) (by decide), hf (13 + 0) (by decide), hf (14 + 0) (by decide), hf (15 + 0) (by decide)]; exact s8
theorem zCS_plane {P' : List (Nat × Nat)} {B' : List zBX} {I' : zI} (h : zCS I 0 (K, R, T, C, A, U, G, P, B)) (hg : zCP I' 0 P' B') (hf : ∀ a, a ≠ 12 → a ≠ 13 → a ≠ 14 → a ≠ 15 → I' a = I a) : zCS I' 0 (K, R, T, C, A, U, G, P', B') := by
  obtain ⟨s1, s2, s3, s4, s5, s6, s7, s8⟩ := h
  refine ⟨?_, ?_, ?_, ?_, ?_, ?_, ?_, hg⟩
  · show zKeys I' 2 K
    unfold zKeys at *
    rw [hf 2 (by decide) (by decide) (by decide) (by decide), hf (2 + 1) (by decide) (by decide) (by decide) (by decide), hf (2 + 2) (by decide) (by decide) (by decide) (by decide)]; exact s1
  · show I' 1 2 = _
    rw [hf 1 (by decide) (by decide) (by decide) (by decide)]; exact s2
  · show zrow (I' 5) R
    rw [hf 5 (by decide) (by decide) (by decide) (by decide)]; exact s3
  · show ∀ j, j < 8 → I' 6 j = T j
    rw [hf 6 (by decide) (by decide) (by decide) (by decide)]; exact s4
  · show I' 1 4 = C
    rw [hf 1 (by decide) (by decide) (by decide) (by decide)]; exact s5
  · show zCA I' 0 A U
    unfold zCA at *
    rw [hf (7 + 0) (by decide) (by decide) (by decide) (by decide), hf (8 + 0) (by decide) (by decide) (by decide) (by decide), hf (9 + 0) (by decide) (by decide) (by decide) (by decide)]; exact s6
  · show zCG I' 0 G
    unfold zCG at *
    rw [hf (11 + 0) (by decide) (by decide) (by decide) (by decide)]; exact s7
theorem zMS_gaps {G' : Nat → Int32} {f f' : Nat → Int32} (h : zMS f (K, R, T, C, A, U, G, P, B)) (hok : zOK (K, R, T, C, A, U, G, P, B)) (hg : zMG f' G') (hf : ∀ i, i < 1540 → f' i = f i) : zMS f' (K, R, T, C, A, U, G', P, B) := by
  obtain ⟨s1, s2, s3, s4, s5, s6⟩ := h
  exact ⟨zMK_fr (fun i hi => hf i (by omega)) (zKR_of hok.1 hok.2.1) s1, fun j hj => by rw [hf j (by omega)]; exact s2 j hj, by rw [hf 10 (by omega)]; exact s3, zMA_fr (fun i hi => hf i (by omega)) hok.2.2.2.2.2.2.1 s4, hg, zMP_fr (fun i hi => hf i (by omega)) hok.2.2.2.2.2.2.2.2 s6⟩
theorem go_lay : zGo (fun M => zg_GP_lay_0 X 0 M) (fun M => zg_M_lay_0 X 181 M) := fun t b I J hi => by
  obtain ⟨⟨K, R, T, C, A, U, G, P, B⟩, r⟩ := t
  have hok := hi.1.1
  obtain ⟨h1, h2, h3, h4, h5, h6, h7, h8, h9⟩ := id hok
  have h1 : zKV K := h1
  have hk : zKeys I 2 K := hi.2.1.1.1
  obtain ⟨I1, a1, a2, a3⟩ := c_lay X (b0 := b) (J := J) hk
  have hJ := zCJ_of hi.2.1
  have hJ1 := zCJ_chg hJ (zCS_gaps hJ.1 a2 a3) (fun a ha => a3 a (by omega))
  have hN : ∀ q ∈ K, q.1 ≠ zN := fun q hq e => by
    have := h1.2.2.2 q hq
    rw [e] at this
    exact absurd this.1 (by decide)
  have hgs := zgs_lay (m := min 48 K.length) (zSrt_map h1.1) (by rw [List.length_map]; omega)
  refine zGo_mk hi (t' := ((K, R, T, C, A, U, zlayG (K.map (·.1)) (min 48 K.length) (min 48 K.length), P, B), r)) (v := .int (Int32.ofNat (min 48 K.length))) ⟨⟨h1, h2, h3, h4, h5, h6, h7, hgs, h9⟩, hi.1.2⟩ (b' := b) (I1 := I1) (J1 := J) a1 ⟨hJ1.1, zCov_lo hi.2.1.2.1 (fun a q1 _ => ⟨a3 a (by omega), rfl⟩), hJ1.2⟩ (fun a ha => a3 a (by omega)) (fun hm => ?_)
  obtain ⟨I2, b1, b2, b3, b4⟩ := m_lay X (b0 := b) (J := J) hm.1.1 (zKR_of h1 h2) hN
  exact ⟨I2, J, b1, zMI_w hm (zMS_gaps hm.1 hok b2 b4) b3, fun a ha => ⟨b3 a (by omega) (by omega) (by omega), rfl⟩⟩
theorem zputs_uniq {x a1 a2 : Int32} {G1 G2 : Nat → Int32} (h : zputs G x a1 G1) (h' : zputs G x a2 G2) : a1 = a2 ∧ G1 = G2 := by
  rcases h with ⟨⟨i, i1, i2⟩, p2, p3⟩ | ⟨p1, a, c, pab, p2⟩
  · rcases h' with ⟨-, q2, q3⟩ | ⟨q1, -⟩
    · exact ⟨p2.trans q2.symm, p3.trans q3.symm⟩
    · exact absurd i2 (q1 i i1)
  · rcases h' with ⟨⟨i, i1, i2⟩, -⟩ | ⟨q1, a', c', qab, q2⟩
    · exact absurd i2 (p1 i i1)
    · obtain ⟨e1, e2⟩ := zab_uniq pab qab
      subst e1; subst e2
      rcases p2 with ⟨u1, u2, u3⟩ | ⟨u1, l, rr, ul, ur, u2⟩
      · rcases q2 with ⟨w1, w2, w3⟩ | ⟨w1, -⟩
        · exact ⟨u2.trans w2.symm, u3.trans w3.symm⟩
        · omega
      · rcases q2 with ⟨w1, -⟩ | ⟨w1, l', r', wl, wr, w2⟩
        · omega
        · have e3 := zlfG_uniq ul wl
          have e4 := zrtG_uniq ur wr
          subst e3; subst e4
          rcases u2 with ⟨c1, c2, c3, c4⟩ | ⟨c1, c2, c3, c4⟩ | ⟨c1, c2, c3, c4⟩
          · rcases w2 with ⟨d1, d2, d3, d4⟩ | ⟨d1, d2, d3, d4⟩ | ⟨d1, d2, d3, d4⟩
            · exact ⟨c3.trans d3.symm, c4.trans d4.symm⟩
            · omega
            · omega
          · rcases w2 with ⟨d1, d2, d3, d4⟩ | ⟨d1, d2, d3, d4⟩ | ⟨d1, d2, d3, d4⟩
            · omega
            · exact ⟨c3.trans d3.symm, c4.trans d4.symm⟩
            · exfalso
              rcases c2 with c2 | c2
              · omega
              · exact d2 ⟨c1, c2⟩
          · rcases w2 with ⟨d1, d2, d3, d4⟩ | ⟨d1, d2, d3, d4⟩ | ⟨d1, d2, d3, d4⟩
            · omega
            · exfalso
              rcases d2 with d2 | d2
              · omega
              · exact c2 ⟨d1, d2⟩
            · exact ⟨c3.trans d3.symm, c4.trans d4.symm⟩
theorem zputs_gs {x a1 : Int32} {G1 : Nat → Int32} (hs : zgs G) (h : zputs G x a1 G1) : zgs G1 := by
  rcases h with ⟨-, -, p3⟩ | ⟨p1, a, c, pab, p2⟩
  · rw [p3]; exact hs
  · rcases p2 with ⟨u1, u2, u3⟩ | ⟨u1, l, rr, ul, ur, u2⟩
    · rw [u3]
      exact zgs_mid hs pab p1 (by omega) (by omega)
    · subst u1
      rcases u2 with ⟨c1, c2, c3, c4⟩ | ⟨c1, c2, c3, c4⟩ | ⟨c1, c2, c3, c4⟩
      · rw [c4]; exact hs
      · rw [c4]
        refine zgs_shl hs pab ul c1 ?_
        rcases Nat.lt_or_ge l a with w | w
        · exact w
        · exfalso
          have el : l = a := by have := ul.1; omega
          rcases ul.2.2 with q | q
          · omega
          · rcases pab.2.1 with z | z
            · omega
            · rw [el] at q; exact z.2.2.1 q
      · rw [c4]
        exact zgs_shr hs pab ur c1
theorem go_put (x : Int32) : zGo (fun M => zg_GP_put_0 X 0 x M) (fun M => zg_M_put_0 X 181 x M) := fun t b I J hi => by
  obtain ⟨⟨K, R, T, C, A, U, G, P, B⟩, r⟩ := t
  have hok := hi.1.1
  obtain ⟨h1, h2, h3, h4, h5, h6, h7, h8, h9⟩ := id hok
  by_cases c : x < -999999999 ∨ 999999999 < x
  · refine zGo_r0 hi (v := .int (-1)) ?_ (fun hm => ⟨I, J, ?_, hi.2.2, fun _ _ => ⟨rfl, rfl⟩⟩)
    · show zg_GP_put_0 X 0 x (zM b I J) = _
      rw [zg_GP_put_0_e, c_canBeKey, zci, zif01, if_pos c, zg_GP_put_21_e, zg_GP_put_22_e]
    · show zg_M_put_0 X 181 x (zM b I J) = _
      rw [zg_M_put_0_e, m_isNumber, zci, zif01, if_pos c]
  · have hxN : x ≠ zN := fun e => c (Or.inl (by rw [e]; decide))
    have hG : zMG (I 182) G := hi.2.2.1.2.2.2.2.1
    have hCG : zCG I 0 G := hi.2.1.1.2.2.2.2.2.2.1
    have h8 : zgs G := h8
    obtain ⟨-, ans, G', hp, -⟩ := m_put X (b0 := b) (J := J) hG h8 c hxN
    obtain ⟨I1, a1, a2, a3⟩ := c_put X (b0 := b) (J := J) hCG h8 c hxN hp
    have hJ := zCJ_of hi.2.1
    have hJ1 := zCJ_chg hJ (zCS_gaps hJ.1 a2 a3) (fun a ha => a3 a (by omega))
    refine zGo_mk hi (t' := ((K, R, T, C, A, U, G', P, B), r)) (v := .int ans) ⟨⟨h1, h2, h3, h4, h5, h6, h7, zputs_gs h8 hp, h9⟩, hi.1.2⟩ (b' := b) (I1 := I1) (J1 := J) a1 ⟨hJ1.1, zCov_lo hi.2.1.2.1 (fun a q1 _ => ⟨a3 a (by omega), rfl⟩), hJ1.2⟩ (fun a ha => a3 a (by omega)) (fun hm => ?_)
    obtain ⟨I2, ans2, G2, b1, b2, b3, b4, b5⟩ := m_put X (b0 := b) (J := J) (I := I1) hm.1.2.2.2.2.1 h8 c hxN
    obtain ⟨e1, e2⟩ := zputs_uniq hp b1
    subst e1; subst e2
    exact ⟨I2, J, b2, zMI_w hm (zMS_gaps hm.1 hok b3 b5) (fun a ha _ _ => b4 a ha), fun a ha => ⟨b4 a (by omega), rfl⟩⟩
theorem zMS_plane {P' : List (Nat × Nat)} {B' : List zBX} {f f' : Nat → Int32} (h : zMS f (K, R, T, C, A, U, G, P, B)) (hok : zOK (K, R, T, C, A, U, G, P, B)) (hg : zMP f' P' B') (hf : ∀ i, i < 13 ∨ (15 ≤ i ∧ i < 1300) ∨ 1532 ≤ i → f' i = f i) : zMS f' (K, R, T, C, A, U, G, P', B') := by
  obtain ⟨s1, s2, s3, s4, s5, s6⟩ := h
  exact ⟨zMK_fr (fun i hi => hf i (by omega)) (zKR_of hok.1 hok.2.1) s1, fun j hj => by rw [hf j (by omega)]; exact s2 j hj, by rw [hf 10 (by omega)]; exact s3, zMA_fr (fun i hi => hf i (by omega)) hok.2.2.2.2.2.2.1 s4, zMG_fr (fun i hi => hf i (by omega)) s5, hg⟩
theorem go_point (x y : Int32) : zGo (fun M => zg_GP_point_0 X 0 x y M) (fun M => zg_M_point_0 X 181 x y M) := fun t b I J hi => by
  obtain ⟨⟨K, R, T, C, A, U, G, P, B⟩, r⟩ := t
  have hok := hi.1.1
  obtain ⟨h1, h2, h3, h4, h5, h6, h7, h8, h9⟩ := id hok
  obtain ⟨ans, P', hp⟩ := zpoint_ex P x y
  obtain ⟨I1, a1, a2, a3⟩ := c_point X (b := b) (J := J) (show zCP I 0 P B from hi.2.1.1.2.2.2.2.2.2.2) h9 hp
  have hJ := zCJ_of hi.2.1
  have hJ1 := zCJ_chg hJ (zCS_plane hJ.1 a2 (fun a c1 c2 c3 _ => a3 a c1 c2 c3)) (fun a ha => a3 a (by omega) (by omega) (by omega))
  refine zGo_mk hi (t' := ((K, R, T, C, A, U, G, P', B), r)) (v := .int ans) ⟨⟨h1, h2, h3, h4, h5, h6, h7, h8, zPok_point h9 hp⟩, hi.1.2⟩ (b' := b) (I1 := I1) (J1 := J) a1 ⟨hJ1.1, zCov_lo hi.2.1.2.1 (fun a q1 _ => ⟨a3 a (by omega) (by omega) (by omega), rfl⟩), hJ1.2⟩ (fun a ha => a3 a (by omega) (by omega) (by omega)) (fun hm => ?_)
  obtain ⟨I2, b1, b2, b3, b4⟩ := m_point X (b := b) (J := J) (I := I1) hm.1.2.2.2.2.2 h9 hp
  exact ⟨I2, J, b1, zMI_w hm (zMS_plane hm.1 hok b2 (fun i hi => b4 i (by omega))) (fun a ha _ _ => b3 a ha), fun a ha => ⟨b3 a (by omega), rfl⟩⟩
theorem go_box (x0 y0 x1 y1 : Int32) : zGo (fun M => zg_GP_box_0 X 0 x0 y0 x1 y1 M) (fun M => zg_M_box_0 X 181 x0 y0 x1 y1 M) := fun t b I J hi => by
  obtain ⟨⟨K, R, T, C, A, U, G, P, B⟩, r⟩ := t
  have hok := hi.1.1
  obtain ⟨h1, h2, h3, h4, h5, h6, h7, h8, h9⟩ := id hok
  obtain ⟨ans, B', hp⟩ := zbox_ex B x0 y0 x1 y1
  obtain ⟨I1, a1, a2, a3⟩ := c_box X (b := b) (J := J) (show zCP I 0 P B from hi.2.1.1.2.2.2.2.2.2.2) h9 hp
  have hJ := zCJ_of hi.2.1
  have hJ1 := zCJ_chg hJ (zCS_plane hJ.1 a2 (fun a c1 _ _ c4 => a3 a c1 c4)) (fun a ha => a3 a (by omega) (by omega))
  refine zGo_mk hi (t' := ((K, R, T, C, A, U, G, P, B'), r)) (v := .int ans) ⟨⟨h1, h2, h3, h4, h5, h6, h7, h8, zPok_box h9 hp⟩, hi.1.2⟩ (b' := b) (I1 := I1) (J1 := J) a1 ⟨hJ1.1, zCov_lo hi.2.1.2.1 (fun a q1 _ => ⟨a3 a (by omega) (by omega), rfl⟩), hJ1.2⟩ (fun a ha => a3 a (by omega) (by omega)) (fun hm => ?_)
  obtain ⟨I2, b1, b2, b3, b4⟩ := m_box X (b := b) (J := J) (I := I1) hm.1.2.2.2.2.2 h9 hp
  exact ⟨I2, J, b1, zMI_w hm (zMS_plane hm.1 hok b2 (fun i hi => b4 i (by omega))) (fun a ha _ _ => b3 a ha), fun a ha => ⟨b3 a (by omega), rfl⟩⟩
theorem go_end (w : Int32) : zGo (fun M => zg_GP_end_0 X 0 w M) (fun M => zg_M_end_0 X 181 w M) := fun t b I J hi => by
  obtain ⟨s, img, g, n, fk, fp⟩ := t
  have hTO : zTO I g n := hi.2.1.2.2.2.1
  have hTM : zTMr I g n := hi.2.2.2.2.1
  have h6 := hTO.1
  have e0 : (0 : Int32).toInt = 0 := rfl
  by_cases c : w < 0 ∨ Int32.ofNat n < w
  · refine zGo_r0 hi (v := .int 0) ?_ (fun hm => ⟨I, J, ?_, hi.2.2, fun _ _ => ⟨rfl, rfl⟩⟩)
    · show zg_GP_end_0 X 0 w (zM b I J) = _
      rw [zg_GP_end_0_e, zo0, zM_P, zp0_3, zrf, zo31, zM_I, hTO.2.1, zg_GP_end_15_e, zrb0]
      by_cases d : w < 0
      · rw [if_pos d]
      · rw [if_neg d, if_neg (fun q => (c.resolve_left d) |> fun z => by rw [zi_lt] at z; rw [zi_le] at q; omega)]
    · show zg_M_end_0 X 181 w (zM b I J) = _
      rw [zg_M_end_0_e, zo181, zM_I, hTM.2.1, m_isIn, zci, zif01, if_pos c, zrb0]
  · obtain ⟨k, hk, rfl, -⟩ := zidx (fun q => c (Or.inl q))
    have hkn : k ≤ n := by
      rcases Nat.lt_or_ge n k with d | d
      · exact absurd (Or.inr ((zn_lt (by omega) (by omega)).mpr d)) c
      · exact d
    have hTO' : zTO (zst I 31 1 (Int32.ofNat k)) g k := ⟨by omega, zst_self, fun i hik => by rw [zst_ne (by decide)]; exact hTO.2.2 i (by omega)⟩
    refine zGo_mk hi (t' := (s, img, g, k, fk, fp)) (v := .int 1) hi.1 (b' := b) (I1 := zst I 31 1 (Int32.ofNat k)) (J1 := J) ?_ ⟨zCS_fr (fun a _ _ => zst_ne (by omega)) hi.2.1.1, zCov_lo hi.2.1.2.1 (fun a q1 _ => ⟨zst_ne (by omega), rfl⟩), zCim_fr (by rw [zst_ne (by decide)]) (fun a _ _ => zst_ne (by omega)) hi.2.1.2.2.1, hTO', by rw [zst_off (by decide)]; exact hi.2.1.2.2.2.2.1, by rw [zst_off (by decide)]; exact hi.2.1.2.2.2.2.2⟩ (fun a ha => zst_ne (by omega)) (fun hm => ?_)
    · show zg_GP_end_0 X 0 (Int32.ofNat k) (zM b I J) = _
      rw [zg_GP_end_0_e, if_neg (fun q => c (Or.inl q)), zo0, zM_P, zp0_3, zrf, zo31, zM_I, hTO.2.1, if_pos ((zn_le (by omega) (by omega)).mpr hkn), zg_GP_end_17_e, zo0, zM_P, zp0_3, zrf, zo31, zM_wI, zrb1]
    · obtain ⟨m1, m2, m3, m4, m5⟩ := hm
      have m3 : zTMr (zst I 31 1 (Int32.ofNat k)) g n := m3
      have hTM' : zTMr (zst (zst I 31 1 (Int32.ofNat k)) 181 7 (Int32.ofNat k)) g k := ⟨by omega, zst_self, fun i hik => by rw [zst_ne (by decide)]; exact m3.2.2 i (by omega)⟩
      refine ⟨zst (zst I 31 1 (Int32.ofNat k)) 181 7 (Int32.ofNat k), J, ?_, ⟨by rw [zst_ne (by decide)]; exact m1, ?_, hTM', by rw [zst_off (by decide)]; exact m4, by rw [zst_off (by decide)]; exact m5⟩, fun a ha => ⟨zst_ne (by omega), rfl⟩⟩
      · show zg_M_end_0 X 181 (Int32.ofNat k) (zM b (zst I 31 1 (Int32.ofNat k)) J) = _
        rw [zg_M_end_0_e, zo181, zM_I, m3.2.1, m_isIn, zci, zif01, if_neg c, zg_M_end_14_e, zo181, zM_wI, zrb1]
      · show zMim (zst (zst I 31 1 (Int32.ofNat k)) 181 7 (Int32.ofNat k)) img
        have m2 : zMim (zst I 31 1 (Int32.ofNat k)) img := m2
        cases img with
        | none => show _ = _; rw [zst_off (by decide)]; exact m2
        | some s' => exact ⟨by rw [zst_off (by decide)]; exact m2.1, by rw [zst_ne (by decide)]; exact m2.2⟩
end ZGG
