/-! blocks 650 to 780 -/
noncomputable def zg_M_comesTo_0x3 (X : zv_X) (l0 : Nat) (l1 l2 l3 : Int32) (l4 : Int64) (M : zv_M) : Option zv_R := zv_exe X 159 (zR X) [(6, .aload_n 0, []), (7, .getfield 215, [12, 27, 1]), (10, .lstore 6, []), (12, .aload_n 0, []), (13, .getfield 218, [12, 28, 1]), (16, .lstore 8, []), (18, .aload_n 0, []), (19, .getfield 221, [12, 29, 1]), (22, .lstore 10, []), (24, .iload_n 2, []), (25, .istore 12, []), (27, .nop, [27])] [some (.ref l0), some (.int l1), some (.int l2), some (.int l3), some (.long l4), none, none, none, none, none, none, none, none, none, none, none, none, none, none] [] M
noncomputable def zg_M_comesTo_0x6 (X : zv_X) (l0 : Nat) (l1 l2 l3 : Int32) (l4 l6 : Int64) (M : zv_M) : Option zv_R := zv_exe X 159 (zR X) [(12, .aload_n 0, []), (13, .getfield 218, [12, 28, 1]), (16, .lstore 8, []), (18, .aload_n 0, []), (19, .getfield 221, [12, 29, 1]), (22, .lstore 10, []), (24, .iload_n 2, []), (25, .istore 12, []), (27, .nop, [27])] [some (.ref l0), some (.int l1), some (.int l2), some (.int l3), some (.long l4), none, some (.long l6), none, none, none, none, none, none, none, none, none, none, none, none] [] M
noncomputable def zg_M_comesTo_0x9 (X : zv_X) (l0 : Nat) (l1 l2 l3 : Int32) (l4 l6 l8 : Int64) (M : zv_M) : Option zv_R := zv_exe X 159 (zR X) [(18, .aload_n 0, []), (19, .getfield 221, [12, 29, 1]), (22, .lstore 10, []), (24, .iload_n 2, []), (25, .istore 12, []), (27, .nop, [27])] [some (.ref l0), some (.int l1), some (.int l2), some (.int l3), some (.long l4), none, some (.long l6), none, some (.long l8), none, none, none, none, none, none, none, none, none, none] [] M
noncomputable def zg_M_comesTo_0x12 (X : zv_X) (l0 : Nat) (l1 l2 l3 : Int32) (l4 l6 l8 l10 : Int64) (M : zv_M) : Option zv_R := zv_exe X 159 (zR X) [(24, .iload_n 2, []), (25, .istore 12, []), (27, .nop, [27])] [some (.ref l0), some (.int l1), some (.int l2), some (.int l3), some (.long l4), none, some (.long l6), none, some (.long l8), none, some (.long l10), none, none, none, none, none, none, none, none] [] M
set_option maxRecDepth 50000 in
theorem zg_M_common_46_e (X : zv_X) (s0 : Int64) (M : zv_M) : zg_M_common_46 X s0 M = some (some (.long s0), M) := (zR_step X _).trans rfl
set_option maxRecDepth 50000 in
theorem zg_M_comesTo_0_e (X : zv_X) (l0 : Nat) (l1 l2 l3 : Int32) (M : zv_M) : zg_M_comesTo_0 X l0 l1 l2 l3 M = zv_ob M 12 l0 (zg_M_comesTo_0x3 X l0 l1 l2 l3 (M.2.2.1 l0 26) M) := (zR_step X _).trans rfl
set_option maxRecDepth 50000 in
theorem zg_M_comesTo_0x3_e (X : zv_X) (l0 : Nat) (l1 l2 l3 : Int32) (l4 : Int64) (M : zv_M) : zg_M_comesTo_0x3 X l0 l1 l2 l3 l4 M = zv_ob M 12 l0 (zg_M_comesTo_0x6 X l0 l1 l2 l3 l4 (M.2.2.1 l0 27) M) := rfl
set_option maxRecDepth 50000 in
theorem zg_M_comesTo_0x6_e (X : zv_X) (l0 : Nat) (l1 l2 l3 : Int32) (l4 l6 : Int64) (M : zv_M) : zg_M_comesTo_0x6 X l0 l1 l2 l3 l4 l6 M = zv_ob M 12 l0 (zg_M_comesTo_0x9 X l0 l1 l2 l3 l4 l6 (M.2.2.1 l0 28) M) := rfl
set_option maxRecDepth 50000 in
theorem zg_M_comesTo_0x9_e (X : zv_X) (l0 : Nat) (l1 l2 l3 : Int32) (l4 l6 l8 : Int64) (M : zv_M) : zg_M_comesTo_0x9 X l0 l1 l2 l3 l4 l6 l8 M = zv_ob M 12 l0 (zg_M_comesTo_0x12 X l0 l1 l2 l3 l4 l6 l8 (M.2.2.1 l0 29) M) := rfl
set_option maxRecDepth 50000 in
theorem zg_M_comesTo_0x12_e (X : zv_X) (l0 : Nat) (l1 l2 l3 : Int32) (l4 l6 l8 l10 : Int64) (M : zv_M) : zg_M_comesTo_0x12 X l0 l1 l2 l3 l4 l6 l8 l10 M = zg_M_comesTo_27 X l0 l1 l3 l4 l6 l8 l10 l2 M := rfl
set_option maxRecDepth 50000 in
theorem zg_M_comesTo_27_e (X : zv_X) (l0 : Nat) (l1 l3 : Int32) (l4 l6 l8 l10 : Int64) (l12 : Int32) (M : zv_M) : zg_M_comesTo_27 X l0 l1 l3 l4 l6 l8 l10 l12 M = if l3 ≤ l12 then zg_M_comesTo_157 X l0 l4 l6 l8 l10 M else zv_ob M 12 l0 (zv_rf (M.2.2.2 l0 17) (fun p1 => zv_iq M p1 l1 (fun j2 => zv_rf (M.2.2.2 p1 j2) (fun p3 => zv_ix M 0 p3 l3 (fun j4 => zv_ob M 12 l0 (zv_rf (M.2.2.2 l0 17) (fun p5 => zv_iq M p5 l1 (fun j6 => zv_rf (M.2.2.2 p5 j6) (fun p7 => zv_ix M 0 p7 l12 (fun j8 => zv_ob M 12 l0 (zv_rf (M.2.2.2 l0 24) (fun p9 => zv_ix M 0 p9 l1 (fun j10 => zv_ob M 12 l0 (zv_rf (M.2.2.2 l0 24) (fun p11 => zv_ix M 0 p11 l1 (fun j12 => if (lg_cmp l6 0) = 0 then zg_M_comesTo_114 X l0 l1 l3 l8 l10 l12 ((Int32.toInt64 (M.2.1 p3 j4)) - (Int32.toInt64 (M.2.1 p7 j8))) ((Int32.toInt64 (l3 - l12)) - (2 * (Int32.toInt64 (M.2.1 p9 j10)))) ((Int32.toInt64 (l3 - l12)) + (2 * (Int32.toInt64 (M.2.1 p11 j12)))) M else if (lg_cmp (((Int32.toInt64 (l3 - l12)) - (2 * (Int32.toInt64 (M.2.1 p9 j10)))) * l6) (l4 * ((Int32.toInt64 (M.2.1 p3 j4)) - (Int32.toInt64 (M.2.1 p7 j8))))) ≤ 0 then zg_M_comesTo_122 X l0 l1 l3 l4 l6 l8 l10 l12 ((Int32.toInt64 (M.2.1 p3 j4)) - (Int32.toInt64 (M.2.1 p7 j8))) ((Int32.toInt64 (l3 - l12)) + (2 * (Int32.toInt64 (M.2.1 p11 j12)))) M else zg_M_comesTo_114 X l0 l1 l3 l8 l10 l12 ((Int32.toInt64 (M.2.1 p3 j4)) - (Int32.toInt64 (M.2.1 p7 j8))) ((Int32.toInt64 (l3 - l12)) - (2 * (Int32.toInt64 (M.2.1 p9 j10)))) ((Int32.toInt64 (l3 - l12)) + (2 * (Int32.toInt64 (M.2.1 p11 j12)))) M)))))))))))))))) := (zR_step X _).trans rfl
set_option maxRecDepth 50000 in
theorem zg_M_comesTo_114_e (X : zv_X) (l0 : Nat) (l1 l3 : Int32) (l8 l10 : Int64) (l12 : Int32) (l13 l15 l17 : Int64) (M : zv_M) : zg_M_comesTo_114 X l0 l1 l3 l8 l10 l12 l13 l15 l17 M = zg_M_comesTo_122 X l0 l1 l3 l15 l13 l8 l10 l12 l13 l17 M := (zR_step X _).trans rfl
set_option maxRecDepth 50000 in
theorem zg_M_comesTo_122_e (X : zv_X) (l0 : Nat) (l1 l3 : Int32) (l4 l6 l8 l10 : Int64) (l12 : Int32) (l13 l17 : Int64) (M : zv_M) : zg_M_comesTo_122 X l0 l1 l3 l4 l6 l8 l10 l12 l13 l17 M = if (lg_cmp l10 0) = 0 then zg_M_comesTo_143 X l0 l1 l3 l4 l6 l12 l13 l17 M else if 0 ≤ (lg_cmp (l17 * l10) (l8 * l13)) then zg_M_comesTo_151 X l0 l1 l3 l4 l6 l8 l10 l12 M else zg_M_comesTo_143 X l0 l1 l3 l4 l6 l12 l13 l17 M := (zR_step X _).trans rfl
set_option maxRecDepth 50000 in
theorem zg_M_comesTo_143_e (X : zv_X) (l0 : Nat) (l1 l3 : Int32) (l4 l6 : Int64) (l12 : Int32) (l13 l17 : Int64) (M : zv_M) : zg_M_comesTo_143 X l0 l1 l3 l4 l6 l12 l13 l17 M = zg_M_comesTo_151 X l0 l1 l3 l4 l6 l17 l13 l12 M := (zR_step X _).trans rfl
set_option maxRecDepth 50000 in
theorem zg_M_comesTo_151_e (X : zv_X) (l0 : Nat) (l1 l3 : Int32) (l4 l6 l8 l10 : Int64) (l12 : Int32) (M : zv_M) : zg_M_comesTo_151 X l0 l1 l3 l4 l6 l8 l10 l12 M = zg_M_comesTo_27 X l0 l1 l3 l4 l6 l8 l10 (l12 + 1) M := (zR_step X _).trans rfl
set_option maxRecDepth 50000 in
theorem zg_M_comesTo_157_e (X : zv_X) (l0 : Nat) (l4 l6 l8 l10 : Int64) (M : zv_M) : zg_M_comesTo_157 X l0 l4 l6 l8 l10 M = if (lg_cmp l6 0) ≤ 0 then zg_M_comesTo_180 X l0 l4 l6 l8 l10 M else if (lg_cmp (l4 * l10) (l8 * l6)) ≤ 0 then zg_M_comesTo_180 X l0 l4 l6 l8 l10 M else zv_rb 0 M := (zR_step X _).trans rfl
set_option maxRecDepth 50000 in
theorem zg_M_comesTo_180_e (X : zv_X) (l0 : Nat) (l4 l6 l8 l10 : Int64) (M : zv_M) : zg_M_comesTo_180 X l0 l4 l6 l8 l10 M = zv_ob M 12 l0 (zv_ob (zv_wL M l0 26 l4) 12 l0 (zv_ob (zv_wL (zv_wL M l0 26 l4) l0 27 l6) 12 l0 (zv_ob (zv_wL (zv_wL (zv_wL M l0 26 l4) l0 27 l6) l0 28 l8) 12 l0 (zv_rb 1 (zv_wL (zv_wL (zv_wL (zv_wL M l0 26 l4) l0 27 l6) l0 28 l8) l0 29 l10))))) := (zR_step X _).trans rfl
set_option maxRecDepth 50000 in
theorem zg_M_covers_0_e (X : zv_X) (l0 : Nat) (l1 : Int32) (M : zv_M) : zg_M_covers_0 X l0 l1 M = zv_ob M 12 l0 (zv_rf (M.2.2.2 l0 23) (fun p1 => zv_ix M 0 p1 l1 (fun j2 => zg_M_covers_9 X l0 l1 0 (zv_wI M p1 j2 0)))) := (zR_step X _).trans rfl
set_option maxRecDepth 50000 in
theorem zg_M_covers_9_e (X : zv_X) (l0 : Nat) (l1 l2 : Int32) (M : zv_M) : zg_M_covers_9 X l0 l1 l2 M = zv_ob M 12 l0 (zv_rf (M.2.2.2 l0 22) (fun p1 => zv_ix M 0 p1 l1 (fun j2 => if (M.2.1 p1 j2) ≤ l2 then zg_M_covers_201 X M else zv_ob M 12 l0 (zv_ob (zv_wL M l0 27 0) 12 l0 (zg_M_covers_33 X l0 l1 l2 (l2 + 1) (zv_wL (zv_wL M l0 27 0) l0 29 0)))))) := (zR_step X _).trans rfl
set_option maxRecDepth 50000 in
theorem zg_M_covers_33_e (X : zv_X) (l0 : Nat) (l1 l2 l3 : Int32) (M : zv_M) : zg_M_covers_33 X l0 l1 l2 l3 M = zv_ob M 12 l0 (zv_rf (M.2.2.2 l0 22) (fun p1 => zv_ix M 0 p1 l1 (fun j2 => if (M.2.1 p1 j2) ≤ l3 then zg_M_covers_59 X l0 l1 l2 l3 M else zv_ob M 12 l0 (zv_ci (zg_M_comesTo_0 X l0 l1 l2 l3 M) (fun v4 M3 => if v4 = 0 then zg_M_covers_59 X l0 l1 l2 l3 M3 else zg_M_covers_33 X l0 l1 l2 (l3 + 1) M3))))) := (zR_step X _).trans rfl
set_option maxRecDepth 50000 in
theorem zg_M_covers_59_e (X : zv_X) (l0 : Nat) (l1 l2 l3 : Int32) (M : zv_M) : zg_M_covers_59 X l0 l1 l2 l3 M = zv_ob M 12 l0 (zv_rf (M.2.2.2 l0 23) (fun p1 => zv_ix M 0 p1 l1 (fun j2 => zv_ob M 12 l0 (zv_rf (M.2.2.2 l0 18) (fun p3 => zv_iq M p3 l1 (fun j4 => zv_rf (M.2.2.2 p3 j4) (fun p5 => zv_ix M 0 p5 (M.2.1 p1 j2) (fun j6 => zv_ob (zv_wI M p5 j6 l2) 12 l0 (zv_rf ((zv_wI M p5 j6 l2).2.2.2 l0 19) (fun p7 => zv_iq (zv_wI M p5 j6 l2) p7 l1 (fun j8 => zv_rf ((zv_wI M p5 j6 l2).2.2.2 p7 j8) (fun p9 => zv_ix (zv_wI M p5 j6 l2) 0 p9 (M.2.1 p1 j2) (fun j10 => zv_ob (zv_wI (zv_wI M p5 j6 l2) p9 j10 (l3 - 1)) 12 l0 (if (lg_cmp ((zv_wI (zv_wI M p5 j6 l2) p9 j10 (l3 - 1)).2.2.1 l0 27) 0) = 0 then zg_M_covers_107 X l0 l1 l3 (M.2.1 p1 j2) (zv_wI (zv_wI M p5 j6 l2) p9 j10 (l3 - 1)) else zv_ob (zv_wI (zv_wI M p5 j6 l2) p9 j10 (l3 - 1)) 12 l0 (if 0 < (lg_cmp ((zv_wI (zv_wI M p5 j6 l2) p9 j10 (l3 - 1)).2.2.1 l0 26) 0) then zg_M_covers_111 X l0 l1 l3 (M.2.1 p1 j2) (zv_wI (zv_wI M p5 j6 l2) p9 j10 (l3 - 1)) else zg_M_covers_107 X l0 l1 l3 (M.2.1 p1 j2) (zv_wI (zv_wI M p5 j6 l2) p9 j10 (l3 - 1))))))))))))))))) := (zR_step X _).trans rfl
set_option maxRecDepth 50000 in
theorem zg_M_covers_107_e (X : zv_X) (l0 : Nat) (l1 l3 l4 : Int32) (M : zv_M) : zg_M_covers_107 X l0 l1 l3 l4 M = zg_M_covers_112 X l0 l1 l3 l4 1 M := (zR_step X _).trans rfl
set_option maxRecDepth 50000 in
theorem zg_M_covers_111_e (X : zv_X) (l0 : Nat) (l1 l3 l4 : Int32) (M : zv_M) : zg_M_covers_111 X l0 l1 l3 l4 M = zg_M_covers_112 X l0 l1 l3 l4 0 M := (zR_step X _).trans rfl
set_option maxRecDepth 50000 in
theorem zg_M_covers_112_e (X : zv_X) (l0 : Nat) (l1 l3 l4 s0 : Int32) (M : zv_M) : zg_M_covers_112 X l0 l1 l3 l4 s0 M = if s0 = 0 then zg_M_covers_123 X l0 l1 l3 l4 s0 M else zg_M_covers_134 X l0 l1 l3 l4 s0 1 M := (zR_step X _).trans rfl
set_option maxRecDepth 50000 in
theorem zg_M_covers_123_e (X : zv_X) (l0 : Nat) (l1 l3 l4 l5 : Int32) (M : zv_M) : zg_M_covers_123 X l0 l1 l3 l4 l5 M = zv_ob M 12 l0 (zv_ob M 12 l0 (zv_cl (zg_M_common_0 X (M.2.2.1 l0 26) (M.2.2.1 l0 27) M) (fun v2 M1 => zg_M_covers_134 X l0 l1 l3 l4 l5 v2 M1))) := (zR_step X _).trans rfl
set_option maxRecDepth 50000 in
theorem zg_M_covers_134_e (X : zv_X) (l0 : Nat) (l1 l3 l4 l5 : Int32) (s0 : Int64) (M : zv_M) : zg_M_covers_134 X l0 l1 l3 l4 l5 s0 M = zv_ob M 12 l0 (zv_rf (M.2.2.2 l0 20) (fun p1 => zv_iq M p1 l1 (fun j2 => zv_rf (M.2.2.2 p1 j2) (fun p3 => if l5 = 0 then zg_M_covers_153 X l0 l1 l3 l4 l5 s0 l4 p3 M else zg_M_covers_160 X l0 l1 l3 l4 l5 s0 0 l4 p3 M)))) := (zR_step X _).trans rfl
set_option maxRecDepth 50000 in
theorem zg_M_covers_153_e (X : zv_X) (l0 : Nat) (l1 l3 l4 l5 : Int32) (l6 : Int64) (s0 : Int32) (s1 : Nat) (M : zv_M) : zg_M_covers_153 X l0 l1 l3 l4 l5 l6 s0 s1 M = zv_ob M 12 l0 (if l6 = 0 then none else zg_M_covers_160 X l0 l1 l3 l4 l5 l6 ((M.2.2.1 l0 26) / l6) s0 s1 M) := (zR_step X _).trans rfl
set_option maxRecDepth 50000 in
theorem zg_M_covers_160_e (X : zv_X) (l0 : Nat) (l1 l3 l4 l5 : Int32) (l6 s0 : Int64) (s1 : Int32) (s2 : Nat) (M : zv_M) : zg_M_covers_160 X l0 l1 l3 l4 l5 l6 s0 s1 s2 M = zv_ix M 1 s2 s1 (fun j1 => zv_ob (zv_wL M s2 j1 s0) 12 l0 (zv_rf ((zv_wL M s2 j1 s0).2.2.2 l0 21) (fun p2 => zv_iq (zv_wL M s2 j1 s0) p2 l1 (fun j3 => zv_rf ((zv_wL M s2 j1 s0).2.2.2 p2 j3) (fun p4 => if l5 = 0 then zg_M_covers_178 X l0 l1 l3 l6 l4 p4 (zv_wL M s2 j1 s0) else zg_M_covers_185 X l0 l1 l3 1 l4 p4 (zv_wL M s2 j1 s0)))))) := (zR_step X _).trans rfl
set_option maxRecDepth 50000 in
theorem zg_M_covers_178_e (X : zv_X) (l0 : Nat) (l1 l3 : Int32) (l6 : Int64) (s0 : Int32) (s1 : Nat) (M : zv_M) : zg_M_covers_178 X l0 l1 l3 l6 s0 s1 M = zv_ob M 12 l0 (if l6 = 0 then none else zg_M_covers_185 X l0 l1 l3 ((M.2.2.1 l0 27) / l6) s0 s1 M) := (zR_step X _).trans rfl
set_option maxRecDepth 50000 in
theorem zg_M_covers_185_e (X : zv_X) (l0 : Nat) (l1 l3 : Int32) (s0 : Int64) (s1 : Int32) (s2 : Nat) (M : zv_M) : zg_M_covers_185 X l0 l1 l3 s0 s1 s2 M = zv_ix M 1 s2 s1 (fun j1 => zv_ob (zv_wL M s2 j1 s0) 12 l0 (zv_rf ((zv_wL M s2 j1 s0).2.2.2 l0 23) (fun p2 => zv_ix (zv_wL M s2 j1 s0) 0 p2 l1 (fun j3 => zv_ix (zv_wL M s2 j1 s0) 0 p2 l1 (fun j4 => zg_M_covers_9 X l0 l1 l3 (zv_wI (zv_wL M s2 j1 s0) p2 j4 (((zv_wL M s2 j1 s0).2.1 p2 j3) + 1))))))) := (zR_step X _).trans rfl
set_option maxRecDepth 50000 in
theorem zg_M_covers_201_e (X : zv_X) (M : zv_M) : zg_M_covers_201 X M = some (none, M) := (zR_step X _).trans rfl
set_option maxRecDepth 50000 in
theorem zg_M_laysLevels_0_e (X : zv_X) (l0 : Nat) (l1 l2 : Int32) (M : zv_M) : zg_M_laysLevels_0 X l0 l1 l2 M = zv_ob M 12 l0 (zv_rf (M.2.2.2 l0 22) (fun p1 => zv_ix M 0 p1 0 (fun j2 => zv_ob (zv_wI M p1 j2 l1) 12 l0 (zv_rf ((zv_wI M p1 j2 l1).2.2.2 l0 24) (fun p3 => zv_ix (zv_wI M p1 j2 l1) 0 p3 0 (fun j4 => zv_ob (zv_wI (zv_wI M p1 j2 l1) p3 j4 l2) 12 l0 (if l1 ≤ 0 then zg_M_laysLevels_27 X l0 (zv_wI (zv_wI (zv_wI M p1 j2 l1) p3 j4 l2) l0 25 0) else zg_M_laysLevels_28 X l0 1 (zv_wI (zv_wI (zv_wI M p1 j2 l1) p3 j4 l2) l0 25 0)))))))) := (zR_step X _).trans rfl
set_option maxRecDepth 50000 in
theorem zg_M_laysLevels_27_e (X : zv_X) (l0 : Nat) (M : zv_M) : zg_M_laysLevels_27 X l0 M = zg_M_laysLevels_28 X l0 0 M := (zR_step X _).trans rfl
set_option maxRecDepth 50000 in
theorem zg_M_laysLevels_28_e (X : zv_X) (l0 : Nat) (s0 : Int32) (M : zv_M) : zg_M_laysLevels_28 X l0 s0 M = zg_M_laysLevels_29 X l0 s0 M := (zR_step X _).trans rfl
set_option maxRecDepth 50000 in
theorem zg_M_laysLevels_29_e (X : zv_X) (l0 : Nat) (l3 : Int32) (M : zv_M) : zg_M_laysLevels_29 X l0 l3 M = if l3 = 0 then zg_M_laysLevels_178 X M else zv_ob M 12 l0 (zv_ob M 12 l0 (zv_cv (zg_M_covers_0 X l0 (M.2.1 l0 25) M) (fun M1 => zv_ob M1 12 l0 (zv_ob M1 12 l0 (zv_ob (zv_wI M1 l0 25 ((M1.2.1 l0 25) + 1)) 12 l0 (zv_rf ((zv_wI M1 l0 25 ((M1.2.1 l0 25) + 1)).2.2.2 l0 23) (fun p2 => zv_ob (zv_wI M1 l0 25 ((M1.2.1 l0 25) + 1)) 12 l0 (zv_ix (zv_wI M1 l0 25 ((M1.2.1 l0 25) + 1)) 0 p2 (((zv_wI M1 l0 25 ((M1.2.1 l0 25) + 1)).2.1 l0 25) - 1) (fun j3 => if ((zv_wI M1 l0 25 ((M1.2.1 l0 25) + 1)).2.1 p2 j3) ≤ 1 then zg_M_laysLevels_70 X l0 (zv_wI M1 l0 25 ((M1.2.1 l0 25) + 1)) else zg_M_laysLevels_71 X l0 1 (zv_wI M1 l0 25 ((M1.2.1 l0 25) + 1))))))))))) := (zR_step X _).trans rfl
set_option maxRecDepth 50000 in
theorem zg_M_laysLevels_70_e (X : zv_X) (l0 : Nat) (M : zv_M) : zg_M_laysLevels_70 X l0 M = zg_M_laysLevels_71 X l0 0 M := (zR_step X _).trans rfl
set_option maxRecDepth 50000 in
theorem zg_M_laysLevels_71_e (X : zv_X) (l0 : Nat) (s0 : Int32) (M : zv_M) : zg_M_laysLevels_71 X l0 s0 M = if s0 = 0 then zg_M_laysLevels_29 X l0 s0 M else zg_M_laysLevels_79 X l0 s0 M := (zR_step X _).trans rfl
set_option maxRecDepth 50000 in
theorem zg_M_laysLevels_79_e (X : zv_X) (l0 : Nat) (l3 : Int32) (M : zv_M) : zg_M_laysLevels_79 X l0 l3 M = zv_ob M 12 l0 (zv_rf (M.2.2.2 l0 22) (fun p1 => zv_ob M 12 l0 (zv_ob M 12 l0 (zv_rf (M.2.2.2 l0 23) (fun p2 => zv_ob M 12 l0 (zv_ix M 0 p2 ((M.2.1 l0 25) - 1) (fun j3 => zv_ix M 0 p1 (M.2.1 l0 25) (fun j4 => zv_ob (zv_wI M p1 j4 (M.2.1 p2 j3)) 12 l0 (zv_rf ((zv_wI M p1 j4 (M.2.1 p2 j3)).2.2.2 l0 24) (fun p5 => zv_ob (zv_wI M p1 j4 (M.2.1 p2 j3)) 12 l0 (zv_ob (zv_wI M p1 j4 (M.2.1 p2 j3)) 12 l0 (zv_rf ((zv_wI M p1 j4 (M.2.1 p2 j3)).2.2.2 l0 0) (fun p6 => zv_ix (zv_wI M p1 j4 (M.2.1 p2 j3)) 0 p6 1 (fun j7 => zv_ix (zv_wI M p1 j4 (M.2.1 p2 j3)) 0 p5 ((zv_wI M p1 j4 (M.2.1 p2 j3)).2.1 l0 25) (fun j8 => zg_M_laysLevels_117 X l0 l3 0 (zv_wI (zv_wI M p1 j4 (M.2.1 p2 j3)) p5 j8 ((zv_wI M p1 j4 (M.2.1 p2 j3)).2.1 p6 j7))))))))))))))))) := (zR_step X _).trans rfl
set_option maxRecDepth 50000 in
theorem zg_M_laysLevels_117_e (X : zv_X) (l0 : Nat) (l3 l4 : Int32) (M : zv_M) : zg_M_laysLevels_117 X l0 l3 l4 M = zv_ob M 12 l0 (zv_rf (M.2.2.2 l0 22) (fun p1 => zv_ob M 12 l0 (zv_ix M 0 p1 (M.2.1 l0 25) (fun j2 => if (M.2.1 p1 j2) ≤ l4 then zg_M_laysLevels_175 X l0 l3 M else zv_ob M 12 l0 (zv_rf (M.2.2.2 l0 17) (fun p3 => zv_ob M 12 l0 (zv_iq M p3 (M.2.1 l0 25) (fun j4 => zv_rf (M.2.2.2 p3 j4) (fun p5 => zv_ob M 12 l0 (zv_rf (M.2.2.2 l0 17) (fun p6 => zv_ob M 12 l0 (zv_iq M p6 ((M.2.1 l0 25) - 1) (fun j7 => zv_rf (M.2.2.2 p6 j7) (fun p8 => zv_ob M 12 l0 (zv_rf (M.2.2.2 l0 18) (fun p9 => zv_ob M 12 l0 (zv_iq M p9 ((M.2.1 l0 25) - 1) (fun j10 => zv_rf (M.2.2.2 p9 j10) (fun p11 => zv_ix M 0 p11 l4 (fun j12 => zv_ix M 0 p8 (M.2.1 p11 j12) (fun j13 => zv_ix M 0 p5 l4 (fun j14 => zg_M_laysLevels_117 X l0 l3 (l4 + 1) (zv_wI M p5 j14 (M.2.1 p8 j13)))))))))))))))))))))))) := (zR_step X _).trans rfl
set_option maxRecDepth 50000 in
theorem zg_M_laysLevels_175_e (X : zv_X) (l0 : Nat) (l3 : Int32) (M : zv_M) : zg_M_laysLevels_175 X l0 l3 M = zg_M_laysLevels_29 X l0 l3 M := (zR_step X _).trans rfl
set_option maxRecDepth 50000 in
theorem zg_M_laysLevels_178_e (X : zv_X) (M : zv_M) : zg_M_laysLevels_178 X M = some (none, M) := (zR_step X _).trans rfl
set_option maxRecDepth 50000 in
theorem zg_M_laysRow_0_e (X : zv_X) (l0 : Nat) (l1 : Int32) (M : zv_M) : zg_M_laysRow_0 X l0 l1 M = zg_M_laysRow_2 X l0 l1 0 M := (zR_step X _).trans rfl
set_option maxRecDepth 50000 in
theorem zg_M_laysRow_2_e (X : zv_X) (l0 : Nat) (l1 l2 : Int32) (M : zv_M) : zg_M_laysRow_2 X l0 l1 l2 M = zv_ob M 12 l0 (zv_rf (M.2.2.2 l0 0) (fun p1 => zv_ix M 0 p1 8 (fun j2 => if (M.2.1 p1 j2) ≤ l2 then zg_M_laysRow_36 X l0 l1 M else zv_ob M 12 l0 (zv_rf (M.2.2.2 l0 17) (fun p3 => zv_iq M p3 0 (fun j4 => zv_rf (M.2.2.2 p3 j4) (fun p5 => zv_ob M 12 l0 (zv_rf (M.2.2.2 l0 0) (fun p6 => zv_ix M 0 p6 (20 + l2) (fun j7 => zv_ix M 0 p5 l2 (fun j8 => zg_M_laysRow_2 X l0 l1 (l2 + 1) (zv_wI M p5 j8 (M.2.1 p6 j7))))))))))))) := (zR_step X _).trans rfl
set_option maxRecDepth 50000 in
theorem zg_M_laysRow_36_e (X : zv_X) (l0 : Nat) (l1 : Int32) (M : zv_M) : zg_M_laysRow_36 X l0 l1 M = zv_ob M 12 l0 (zv_rf (M.2.2.2 l0 0) (fun p1 => zv_ix M 0 p1 8 (fun j2 => zv_ob M 12 l0 (zv_cv (zg_M_laysLevels_0 X l0 (M.2.1 p1 j2) l1 M) (fun M3 => some (none, M3)))))) := (zR_step X _).trans rfl
set_option maxRecDepth 50000 in
theorem zg_M_downwards_0_e (X : zv_X) (l0 l2 : Int64) (M : zv_M) : zg_M_downwards_0 X l0 l2 M = if l2 = 0 then none else if l2 = 0 then none else if (lg_cmp (l0 - l0 / l2 * l2) 0) = 0 then zg_M_downwards_26 X (l0 / l2) M else if 0 ≤ (lg_cmp l0 0) then zg_M_downwards_26 X (l0 / l2) M else zg_M_downwards_28 X ((l0 / l2) - 1) M := (zR_step X _).trans rfl
set_option maxRecDepth 50000 in
theorem zg_M_downwards_26_e (X : zv_X) (l4 : Int64) (M : zv_M) : zg_M_downwards_26 X l4 M = zg_M_downwards_28 X l4 M := (zR_step X _).trans rfl
set_option maxRecDepth 50000 in
theorem zg_M_downwards_28_e (X : zv_X) (s0 : Int64) (M : zv_M) : zg_M_downwards_28 X s0 M = some (some (.long s0), M) := (zR_step X _).trans rfl
set_option maxRecDepth 50000 in
theorem zg_M_guessOf_0_e (X : zv_X) (l0 : Nat) (l1 l2 l3 : Int32) (M : zv_M) : zg_M_guessOf_0 X l0 l1 l2 l3 M = zv_ob M 12 l0 (zv_rf (M.2.2.2 l0 18) (fun p1 => zv_iq M p1 l1 (fun j2 => zv_rf (M.2.2.2 p1 j2) (fun p3 => zv_ix M 0 p3 l2 (fun j4 => zg_M_guessOf_15 X l0 l1 l2 l3 (-9223372036854775808) (M.2.1 p3 j4) M))))) := (zR_step X _).trans rfl
set_option maxRecDepth 50000 in
theorem zg_M_guessOf_15_e (X : zv_X) (l0 : Nat) (l1 l2 l3 : Int32) (l4 : Int64) (l6 : Int32) (M : zv_M) : zg_M_guessOf_15 X l0 l1 l2 l3 l4 l6 M = zv_ob M 12 l0 (zv_rf (M.2.2.2 l0 19) (fun p1 => zv_iq M p1 l1 (fun j2 => zv_rf (M.2.2.2 p1 j2) (fun p3 => zv_ix M 0 p3 l2 (fun j4 => if (M.2.1 p3 j4) < l6 then zg_M_guessOf_97 X l0 l1 l2 l4 M else zv_ob M 12 l0 (zv_rf (M.2.2.2 l0 24) (fun p5 => zv_ix M 0 p5 l1 (fun j6 => zv_ob M 12 l0 (zv_rf (M.2.2.2 l0 20) (fun p7 => zv_iq M p7 l1 (fun j8 => zv_rf (M.2.2.2 p7 j8) (fun p9 => zv_ix M 1 p9 l2 (fun j10 => zv_ob M 12 l0 (zv_rf (M.2.2.2 l0 17) (fun p11 => zv_iq M p11 l1 (fun j12 => zv_rf (M.2.2.2 p11 j12) (fun p13 => zv_ix M 0 p13 l6 (fun j14 => zv_ob M 12 l0 (zv_rf (M.2.2.2 l0 21) (fun p15 => zv_iq M p15 l1 (fun j16 => zv_rf (M.2.2.2 p15 j16) (fun p17 => zv_ix M 1 p17 l2 (fun j18 => zv_cl (zg_M_downwards_0 X ((M.2.2.1 p9 j10) * ((Int32.toInt64 l3) - (Int32.toInt64 (M.2.1 p13 j14)))) (M.2.2.1 p17 j18) M) (fun v20 M19 => if (lg_cmp ((Int32.toInt64 (l6 - (M.2.1 p5 j6))) + v20) l4) ≤ 0 then zg_M_guessOf_87 X l0 l1 l2 l3 l4 l6 M19 else zg_M_guessOf_89 X l0 l1 l2 l3 l6 ((Int32.toInt64 (l6 - (M.2.1 p5 j6))) + v20) M19)))))))))))))))))))))))) := (zR_step X _).trans rfl
set_option maxRecDepth 50000 in
theorem zg_M_guessOf_87_e (X : zv_X) (l0 : Nat) (l1 l2 l3 : Int32) (l4 : Int64) (l6 : Int32) (M : zv_M) : zg_M_guessOf_87 X l0 l1 l2 l3 l4 l6 M = zg_M_guessOf_89 X l0 l1 l2 l3 l6 l4 M := (zR_step X _).trans rfl
set_option maxRecDepth 50000 in
theorem zg_M_guessOf_89_e (X : zv_X) (l0 : Nat) (l1 l2 l3 l6 : Int32) (s0 : Int64) (M : zv_M) : zg_M_guessOf_89 X l0 l1 l2 l3 l6 s0 M = zg_M_guessOf_15 X l0 l1 l2 l3 s0 (l6 + 1) M := (zR_step X _).trans rfl
set_option maxRecDepth 50000 in
theorem zg_M_guessOf_97_e (X : zv_X) (l0 : Nat) (l1 l2 : Int32) (l4 : Int64) (M : zv_M) : zg_M_guessOf_97 X l0 l1 l2 l4 M = zv_ob M 12 l0 (zv_rf (M.2.2.2 l0 19) (fun p1 => zv_iq M p1 l1 (fun j2 => zv_rf (M.2.2.2 p1 j2) (fun p3 => zv_ix M 0 p3 l2 (fun j4 => if 0 ≤ (lg_cmp l4 0) then zg_M_guessOf_121 X l4 ((Int32.toInt64 (M.2.1 p3 j4)) + 1) M else zg_M_guessOf_136 X 0 M))))) := (zR_step X _).trans rfl
set_option maxRecDepth 50000 in
theorem zg_M_guessOf_121_e (X : zv_X) (l4 l6 : Int64) (M : zv_M) : zg_M_guessOf_121 X l4 l6 M = if (lg_cmp l4 l6) ≤ 0 then zg_M_guessOf_134 X l4 M else zg_M_guessOf_136 X l6 M := (zR_step X _).trans rfl
set_option maxRecDepth 50000 in
theorem zg_M_guessOf_134_e (X : zv_X) (l4 : Int64) (M : zv_M) : zg_M_guessOf_134 X l4 M = zg_M_guessOf_136 X l4 M := (zR_step X _).trans rfl
set_option maxRecDepth 50000 in
theorem zg_M_guessOf_136_e (X : zv_X) (s0 : Int64) (M : zv_M) : zg_M_guessOf_136 X s0 M = some (some (.int (Int64.toInt32 s0)), M) := (zR_step X _).trans rfl
set_option maxRecDepth 50000 in
theorem zg_M_isPiece_0_e (X : zv_X) (l0 : Nat) (l1 l2 : Int32) (M : zv_M) : zg_M_isPiece_0 X l0 l1 l2 M = zv_ob M 12 l0 (zv_ci (zg_M_isIn_0 X l1 0 ((M.2.1 l0 25) - 1) M) (fun v2 M1 => if v2 = 0 then zg_M_isPiece_34 X M1 else zv_ob M1 12 l0 (zv_rf (M1.2.2.2 l0 23) (fun p3 => zv_ix M1 0 p3 l1 (fun j4 => zv_ci (zg_M_isIn_0 X l2 0 ((M1.2.1 p3 j4) - 1) M1) (fun v6 M5 => if v6 = 0 then zg_M_isPiece_34 X M5 else zg_M_isPiece_35 X 1 M5)))))) := (zR_step X _).trans rfl
set_option maxRecDepth 50000 in
theorem zg_M_isPiece_34_e (X : zv_X) (M : zv_M) : zg_M_isPiece_34 X M = zg_M_isPiece_35 X 0 M := (zR_step X _).trans rfl
set_option maxRecDepth 50000 in
theorem zg_M_isPiece_35_e (X : zv_X) (s0 : Int32) (M : zv_M) : zg_M_isPiece_35 X s0 M = zv_rb s0 M := (zR_step X _).trans rfl
set_option maxRecDepth 50000 in
theorem zg_M_piece_0_e (X : zv_X) (l0 : Nat) (l1 l2 l3 : Int32) (M : zv_M) : zg_M_piece_0 X l0 l1 l2 l3 M = zv_ob M 12 l0 (zv_rf (M.2.2.2 l0 0) (fun p1 => zv_ix M 0 p1 0 (fun j2 => zv_ob M 12 l0 (zv_cv (zg_M_laysRow_0 X l0 (M.2.1 p1 j2) M) (fun M3 => zv_ob M3 12 l0 (zv_ci (zg_M_isPiece_0 X l0 l1 l2 M3) (fun v5 M4 => if v5 = 0 then some (some (.int (-1000000001)), M4) else zg_M_piece_22 X l0 l1 l2 l3 M4))))))) := (zR_step X _).trans rfl
set_option maxRecDepth 50000 in
theorem zg_M_piece_22_e (X : zv_X) (l0 : Nat) (l1 l2 l3 : Int32) (M : zv_M) : zg_M_piece_22 X l0 l1 l2 l3 M = if (l3 : Int32).toInt < 0 ∨ 4 < (l3 : Int32).toInt then zg_M_piece_110 X M else zv_sw [56, 65, 74, 84, 94] ((l3 : Int32).toInt - 0).toNat (fun l => zR X (zv_jmp 166 l [some (.ref l0), some (.int l1), some (.int l2), some (.int l3)] [] M)) := (zR_step X _).trans rfl
set_option maxRecDepth 50000 in
theorem zg_M_piece_56_e (X : zv_X) (l0 : Nat) (l1 l2 : Int32) (M : zv_M) : zg_M_piece_56 X l0 l1 l2 M = zv_ob M 12 l0 (zv_rf (M.2.2.2 l0 18) (fun p1 => zv_iq M p1 l1 (fun j2 => zv_rf (M.2.2.2 p1 j2) (fun p3 => zv_ix M 0 p3 l2 (fun j4 => some (some (.int (M.2.1 p3 j4)), M)))))) := (zR_step X _).trans rfl
set_option maxRecDepth 50000 in
theorem zg_M_piece_65_e (X : zv_X) (l0 : Nat) (l1 l2 : Int32) (M : zv_M) : zg_M_piece_65 X l0 l1 l2 M = zv_ob M 12 l0 (zv_rf (M.2.2.2 l0 19) (fun p1 => zv_iq M p1 l1 (fun j2 => zv_rf (M.2.2.2 p1 j2) (fun p3 => zv_ix M 0 p3 l2 (fun j4 => some (some (.int (M.2.1 p3 j4)), M)))))) := (zR_step X _).trans rfl
set_option maxRecDepth 50000 in
theorem zg_M_piece_74_e (X : zv_X) (l0 : Nat) (l1 l2 : Int32) (M : zv_M) : zg_M_piece_74 X l0 l1 l2 M = zv_ob M 12 l0 (zv_rf (M.2.2.2 l0 20) (fun p1 => zv_iq M p1 l1 (fun j2 => zv_rf (M.2.2.2 p1 j2) (fun p3 => zv_ix M 1 p3 l2 (fun j4 => some (some (.int (Int64.toInt32 (M.2.2.1 p3 j4))), M)))))) := (zR_step X _).trans rfl
set_option maxRecDepth 50000 in
theorem zg_M_piece_84_e (X : zv_X) (l0 : Nat) (l1 l2 : Int32) (M : zv_M) : zg_M_piece_84 X l0 l1 l2 M = zv_ob M 12 l0 (zv_rf (M.2.2.2 l0 21) (fun p1 => zv_iq M p1 l1 (fun j2 => zv_rf (M.2.2.2 p1 j2) (fun p3 => zv_ix M 1 p3 l2 (fun j4 => some (some (.int (Int64.toInt32 (M.2.2.1 p3 j4))), M)))))) := (zR_step X _).trans rfl
set_option maxRecDepth 50000 in
theorem zg_M_piece_94_e (X : zv_X) (l0 : Nat) (l1 l2 : Int32) (M : zv_M) : zg_M_piece_94 X l0 l1 l2 M = zv_ob M 12 l0 (zv_rf (M.2.2.2 l0 17) (fun p1 => zv_iq M p1 l1 (fun j2 => zv_rf (M.2.2.2 p1 j2) (fun p3 => zv_ob M 12 l0 (zv_rf (M.2.2.2 l0 18) (fun p4 => zv_iq M p4 l1 (fun j5 => zv_rf (M.2.2.2 p4 j5) (fun p6 => zv_ix M 0 p6 l2 (fun j7 => zv_ix M 0 p3 (M.2.1 p6 j7) (fun j8 => some (some (.int (M.2.1 p3 j8)), M))))))))))) := (zR_step X _).trans rfl
set_option maxRecDepth 50000 in
theorem zg_M_piece_110_e (X : zv_X) (M : zv_M) : zg_M_piece_110 X M = some (some (.int (-1000000001)), M) := (zR_step X _).trans rfl
set_option maxRecDepth 50000 in
theorem zg_M_guess_0_e (X : zv_X) (l0 : Nat) (l1 l2 l3 : Int32) (M : zv_M) : zg_M_guess_0 X l0 l1 l2 l3 M = zv_ob M 12 l0 (zv_rf (M.2.2.2 l0 0) (fun p1 => zv_ix M 0 p1 0 (fun j2 => zv_ob M 12 l0 (zv_cv (zg_M_laysRow_0 X l0 (M.2.1 p1 j2) M) (fun M3 => zv_ob M3 12 l0 (zv_ci (zg_M_isPiece_0 X l0 l1 l2 M3) (fun v5 M4 => if v5 = 0 then zg_M_guess_29 X M4 else zv_ob M4 12 l0 (zv_ci (zg_M_guessOf_0 X l0 l1 l2 l3 M4) (fun v7 M6 => zg_M_guess_30 X v7 M6))))))))) := (zR_step X _).trans rfl
set_option maxRecDepth 50000 in
theorem zg_M_guess_29_e (X : zv_X) (M : zv_M) : zg_M_guess_29 X M = zg_M_guess_30 X (-1) M := (zR_step X _).trans rfl
set_option maxRecDepth 50000 in
theorem zg_M_guess_30_e (X : zv_X) (s0 : Int32) (M : zv_M) : zg_M_guess_30 X s0 M = some (some (.int s0), M) := (zR_step X _).trans rfl
set_option maxRecDepth 50000 in
theorem zg_M_halves_0_e (X : zv_X) (l0 : Nat) (l1 l2 l3 l4 : Int32) (M : zv_M) : zg_M_halves_0 X l0 l1 l2 l3 l4 M = zg_M_halves_6 X l0 l1 l4 l2 l3 M := (zR_step X _).trans rfl
set_option maxRecDepth 50000 in
theorem zg_M_halves_6_e (X : zv_X) (l0 : Nat) (l1 l4 l5 l6 : Int32) (M : zv_M) : zg_M_halves_6 X l0 l1 l4 l5 l6 M = if l6 ≤ l5 then zg_M_halves_100 X l5 M else if (2 : Int32) = 0 then none else zv_ob M 12 l0 (zv_ob M 12 l0 (if l1 = 0 then zv_ob (zv_wI M l0 30 ((M.2.1 l0 30) + 1)) 12 l0 (zv_rf ((zv_wI M l0 30 ((M.2.1 l0 30) + 1)).2.2.2 l0 17) (fun p1 => zv_iq (zv_wI M l0 30 ((M.2.1 l0 30) + 1)) p1 l1 (fun j2 => zv_rf ((zv_wI M l0 30 ((M.2.1 l0 30) + 1)).2.2.2 p1 j2) (fun p3 => zv_ix (zv_wI M l0 30 ((M.2.1 l0 30) + 1)) 0 p3 ((l5 + l6) / 2) (fun j4 => if l4 ≤ ((zv_wI M l0 30 ((M.2.1 l0 30) + 1)).2.1 p3 j4) then zg_M_halves_54 X l0 l1 l4 l5 l6 ((l5 + l6) / 2) (zv_wI M l0 30 ((M.2.1 l0 30) + 1)) else zg_M_halves_77 X l0 l1 l4 l5 l6 ((l5 + l6) / 2) 1 (zv_wI M l0 30 ((M.2.1 l0 30) + 1))))))) else zg_M_halves_58 X l0 l1 l4 l5 l6 ((l5 + l6) / 2) (zv_wI M l0 30 ((M.2.1 l0 30) + 1)))) := (zR_step X _).trans rfl
set_option maxRecDepth 50000 in
theorem zg_M_halves_54_e (X : zv_X) (l0 : Nat) (l1 l4 l5 l6 l7 : Int32) (M : zv_M) : zg_M_halves_54 X l0 l1 l4 l5 l6 l7 M = zg_M_halves_77 X l0 l1 l4 l5 l6 l7 0 M := (zR_step X _).trans rfl
set_option maxRecDepth 50000 in
theorem zg_M_halves_58_e (X : zv_X) (l0 : Nat) (l1 l4 l5 l6 l7 : Int32) (M : zv_M) : zg_M_halves_58 X l0 l1 l4 l5 l6 l7 M = zv_ob M 12 l0 (zv_rf (M.2.2.2 l0 17) (fun p1 => zv_iq M p1 l1 (fun j2 => zv_rf (M.2.2.2 p1 j2) (fun p3 => zv_ix M 0 p3 l7 (fun j4 => if l4 < (M.2.1 p3 j4) then zg_M_halves_76 X l0 l1 l4 l5 l6 l7 M else zg_M_halves_77 X l0 l1 l4 l5 l6 l7 1 M))))) := (zR_step X _).trans rfl
set_option maxRecDepth 50000 in
theorem zg_M_halves_76_e (X : zv_X) (l0 : Nat) (l1 l4 l5 l6 l7 : Int32) (M : zv_M) : zg_M_halves_76 X l0 l1 l4 l5 l6 l7 M = zg_M_halves_77 X l0 l1 l4 l5 l6 l7 0 M := (zR_step X _).trans rfl
set_option maxRecDepth 50000 in
theorem zg_M_halves_77_e (X : zv_X) (l0 : Nat) (l1 l4 l5 l6 l7 s0 : Int32) (M : zv_M) : zg_M_halves_77 X l0 l1 l4 l5 l6 l7 s0 M = if s0 = 0 then zg_M_halves_93 X l0 l1 l4 l5 l7 M else zg_M_halves_97 X l0 l1 l4 (l7 + 1) l6 M := (zR_step X _).trans rfl
set_option maxRecDepth 50000 in
theorem zg_M_halves_93_e (X : zv_X) (l0 : Nat) (l1 l4 l5 l7 : Int32) (M : zv_M) : zg_M_halves_93 X l0 l1 l4 l5 l7 M = zg_M_halves_97 X l0 l1 l4 l5 l7 M := (zR_step X _).trans rfl
set_option maxRecDepth 50000 in
theorem zg_M_halves_97_e (X : zv_X) (l0 : Nat) (l1 l4 l5 l6 : Int32) (M : zv_M) : zg_M_halves_97 X l0 l1 l4 l5 l6 M = zg_M_halves_6 X l0 l1 l4 l5 l6 M := (zR_step X _).trans rfl
set_option maxRecDepth 50000 in
theorem zg_M_halves_100_e (X : zv_X) (l5 : Int32) (M : zv_M) : zg_M_halves_100 X l5 M = some (some (.int l5), M) := (zR_step X _).trans rfl
set_option maxRecDepth 50000 in
theorem zg_M_seeks_0_e (X : zv_X) (l0 : Nat) (l1 : Int32) (M : zv_M) : zg_M_seeks_0 X l0 l1 M = zv_ob M 12 l0 (zv_ob (zv_wI M l0 30 0) 12 l0 (zg_M_seeks_17 X l0 l1 0 0 (((zv_wI M l0 30 0).2.1 l0 25) - 1) (zv_wI M l0 30 0))) := (zR_step X _).trans rfl
set_option maxRecDepth 50000 in
theorem zg_M_seeks_17_e (X : zv_X) (l0 : Nat) (l1 l2 l3 l4 : Int32) (M : zv_M) : zg_M_seeks_17 X l0 l1 l2 l3 l4 M = if l4 < 0 then zg_M_seeks_121 X l3 M else zv_ob M 12 l0 (zv_ci (zg_M_guessOf_0 X l0 l4 l2 l1 M) (fun v2 M1 => zv_ob M1 12 l0 (zv_rf (M1.2.2.2 l0 24) (fun p3 => zv_ix M1 0 p3 l4 (fun j4 => zv_ob M1 12 l0 (zv_rf (M1.2.2.2 l0 24) (fun p5 => zv_ix M1 0 p5 l4 (fun j6 => if 0 ≤ ((v2 - (M1.2.1 p3 j4)) - 1) then zg_M_seeks_72 X l0 l1 l4 ((v2 - (M1.2.1 p3 j4)) - 1) ((v2 + (M1.2.1 p5 j6)) + 2) l4 l0 M1 else zg_M_seeks_74 X l0 l1 l4 ((v2 + (M1.2.1 p5 j6)) + 2) 0 l4 l0 M1)))))))) := (zR_step X _).trans rfl
set_option maxRecDepth 50000 in
theorem zg_M_seeks_72_e (X : zv_X) (l0 : Nat) (l1 l4 l6 l7 s0 : Int32) (s1 : Nat) (M : zv_M) : zg_M_seeks_72 X l0 l1 l4 l6 l7 s0 s1 M = zg_M_seeks_74 X l0 l1 l4 l7 l6 s0 s1 M := (zR_step X _).trans rfl
set_option maxRecDepth 50000 in
theorem zg_M_seeks_74_e (X : zv_X) (l0 : Nat) (l1 l4 l7 s0 s1 : Int32) (s2 : Nat) (M : zv_M) : zg_M_seeks_74 X l0 l1 l4 l7 s0 s1 s2 M = zv_ob M 12 l0 (zv_rf (M.2.2.2 l0 22) (fun p1 => zv_ix M 0 p1 l4 (fun j2 => if l7 ≤ (M.2.1 p1 j2) then zg_M_seeks_96 X l0 l1 l4 l7 s0 s1 s2 M else zv_ob M 12 l0 (zv_rf (M.2.2.2 l0 22) (fun p3 => zv_ix M 0 p3 l4 (fun j4 => zg_M_seeks_98 X l0 l1 l4 (M.2.1 p3 j4) s0 s1 s2 M)))))) := (zR_step X _).trans rfl
set_option maxRecDepth 50000 in
theorem zg_M_seeks_96_e (X : zv_X) (l0 : Nat) (l1 l4 l7 s0 s1 : Int32) (s2 : Nat) (M : zv_M) : zg_M_seeks_96 X l0 l1 l4 l7 s0 s1 s2 M = zg_M_seeks_98 X l0 l1 l4 l7 s0 s1 s2 M := (zR_step X _).trans rfl
set_option maxRecDepth 50000 in
theorem zg_M_seeks_98_e (X : zv_X) (l0 : Nat) (l1 l4 s0 s1 s2 : Int32) (s3 : Nat) (M : zv_M) : zg_M_seeks_98 X l0 l1 l4 s0 s1 s2 s3 M = zv_ob M 12 s3 (zv_ci (zg_M_halves_0 X s3 s2 s1 s0 l1 M) (fun v2 M1 => if v2 ≤ 0 then zg_M_seeks_113 X l0 l1 v2 l4 M1 else zg_M_seeks_114 X l0 l1 v2 l4 (v2 - 1) M1)) := (zR_step X _).trans rfl
set_option maxRecDepth 50000 in
theorem zg_M_seeks_113_e (X : zv_X) (l0 : Nat) (l1 l3 l4 : Int32) (M : zv_M) : zg_M_seeks_113 X l0 l1 l3 l4 M = zg_M_seeks_114 X l0 l1 l3 l4 0 M := (zR_step X _).trans rfl
set_option maxRecDepth 50000 in
theorem zg_M_seeks_114_e (X : zv_X) (l0 : Nat) (l1 l3 l4 s0 : Int32) (M : zv_M) : zg_M_seeks_114 X l0 l1 l3 l4 s0 M = zg_M_seeks_17 X l0 l1 s0 l3 (l4 + (-1)) M := (zR_step X _).trans rfl
set_option maxRecDepth 50000 in
theorem zg_M_seeks_121_e (X : zv_X) (l3 : Int32) (M : zv_M) : zg_M_seeks_121 X l3 M = some (some (.int l3), M) := (zR_step X _).trans rfl
set_option maxRecDepth 50000 in
theorem zg_M_seek_0_e (X : zv_X) (l0 : Nat) (l1 l2 : Int32) (M : zv_M) : zg_M_seek_0 X l0 l1 l2 M = zv_ci (zg_M_isIn_0 X l2 0 2 M) (fun v2 M1 => if v2 = 0 then some (some (.int (-1)), M1) else zg_M_seek_11 X l0 l1 l2 M1) := (zR_step X _).trans rfl
set_option maxRecDepth 50000 in
theorem zg_M_seek_11_e (X : zv_X) (l0 : Nat) (l1 l2 : Int32) (M : zv_M) : zg_M_seek_11 X l0 l1 l2 M = zv_ob M 12 l0 (zv_rf (M.2.2.2 l0 0) (fun p1 => zv_ix M 0 p1 0 (fun j2 => zv_ob M 12 l0 (zv_cv (zg_M_laysRow_0 X l0 (M.2.1 p1 j2) M) (fun M3 => if 2 ≤ l2 then zg_M_seek_45 X l0 l1 M3 else zv_ob M3 12 l0 (zv_ci (zg_M_seeks_0 X l0 l1 M3) (fun v5 M4 => if l2 = 0 then zg_M_seek_44 X v5 M4 else zg_M_seek_40 X l0 M4))))))) := (zR_step X _).trans rfl
set_option maxRecDepth 50000 in
theorem zg_M_seek_40_e (X : zv_X) (l0 : Nat) (M : zv_M) : zg_M_seek_40 X l0 M = zv_ob M 12 l0 (zg_M_seek_44 X (M.2.1 l0 30) M) := (zR_step X _).trans rfl
set_option maxRecDepth 50000 in
theorem zg_M_seek_44_e (X : zv_X) (s0 : Int32) (M : zv_M) : zg_M_seek_44 X s0 M = some (some (.int s0), M) := (zR_step X _).trans rfl
set_option maxRecDepth 50000 in
theorem zg_M_seek_45_e (X : zv_X) (l0 : Nat) (l1 : Int32) (M : zv_M) : zg_M_seek_45 X l0 l1 M = zv_ob M 12 l0 (zv_ob (zv_wI M l0 30 0) 12 l0 (zv_rf ((zv_wI M l0 30 0).2.2.2 l0 0) (fun p1 => zv_ix (zv_wI M l0 30 0) 0 p1 8 (fun j2 => zv_ob (zv_wI M l0 30 0) 12 l0 (zv_ci (zg_M_halves_0 X l0 0 0 ((zv_wI M l0 30 0).2.1 p1 j2) l1 (zv_wI M l0 30 0)) (fun v4 M3 => zv_ob M3 12 l0 (some (some (.int (M3.2.1 l0 30)), M3)))))))) := (zR_step X _).trans rfl
set_option maxRecDepth 50000 in
theorem zg_M_pieceOf_0_e (X : zv_X) (l0 : Nat) (l1 l2 : Int32) (M : zv_M) : zg_M_pieceOf_0 X l0 l1 l2 M = zg_M_pieceOf_2 X l0 l1 l2 0 M := (zR_step X _).trans rfl
set_option maxRecDepth 50000 in
theorem zg_M_pieceOf_2_e (X : zv_X) (l0 : Nat) (l1 l2 l3 : Int32) (M : zv_M) : zg_M_pieceOf_2 X l0 l1 l2 l3 M = zv_ob M 12 l0 (zv_rf (M.2.2.2 l0 19) (fun p1 => zv_iq M p1 l1 (fun j2 => zv_rf (M.2.2.2 p1 j2) (fun p3 => zv_ix M 0 p3 l3 (fun j4 => if l2 ≤ (M.2.1 p3 j4) then zg_M_pieceOf_20 X l3 M else zg_M_pieceOf_2 X l0 l1 l2 (l3 + 1) M))))) := (zR_step X _).trans rfl
set_option maxRecDepth 50000 in
theorem zg_M_pieceOf_20_e (X : zv_X) (l3 : Int32) (M : zv_M) : zg_M_pieceOf_20 X l3 M = some (some (.int l3), M) := (zR_step X _).trans rfl
set_option maxRecDepth 50000 in
theorem zg_M_pages_0_e (X : zv_X) (l0 : Nat) (l1 : Int32) (M : zv_M) : zg_M_pages_0 X l0 l1 M = zv_ci (zg_M_isIn_0 X l1 0 1 M) (fun v2 M1 => if v2 = 0 then some (some (.int (-1)), M1) else zg_M_pages_11 X l0 l1 M1) := (zR_step X _).trans rfl
set_option maxRecDepth 50000 in
theorem zg_M_pages_11_e (X : zv_X) (l0 : Nat) (l1 : Int32) (M : zv_M) : zg_M_pages_11 X l0 l1 M = zv_ob M 12 l0 (zv_rf (M.2.2.2 l0 0) (fun p1 => zv_ix M 0 p1 8 (fun j2 => if l1 = 1 then zg_M_pages_29 X l0 (M.2.1 p1 j2) 0 1 M else zg_M_pages_61 X l0 (M.2.1 p1 j2) M))) := (zR_step X _).trans rfl
set_option maxRecDepth 50000 in
theorem zg_M_pages_29_e (X : zv_X) (l0 : Nat) (l2 l3 : Int32) (l4 : Int64) (M : zv_M) : zg_M_pages_29 X l0 l2 l3 l4 M = if 0 ≤ (lg_cmp l4 (Int32.toInt64 l2)) then zg_M_pages_55 X l2 l3 M else zv_ob M 12 l0 (zv_rf (M.2.2.2 l0 0) (fun p1 => zv_ix M 0 p1 4 (fun j2 => zg_M_pages_29 X l0 l2 (l3 + 1) (l4 * (Int32.toInt64 (M.2.1 p1 j2))) M))) := (zR_step X _).trans rfl
set_option maxRecDepth 50000 in
theorem zg_M_pages_55_e (X : zv_X) (l2 l3 : Int32) (M : zv_M) : zg_M_pages_55 X l2 l3 M = some (some (.int (l2 * (l3 + 1))), M) := (zR_step X _).trans rfl
set_option maxRecDepth 50000 in
theorem zg_M_pages_61_e (X : zv_X) (l0 : Nat) (l2 : Int32) (M : zv_M) : zg_M_pages_61 X l0 l2 M = zv_ob M 12 l0 (zv_rf (M.2.2.2 l0 0) (fun p1 => zv_ix M 0 p1 0 (fun j2 => zv_ob M 12 l0 (zv_cv (zg_M_laysRow_0 X l0 (M.2.1 p1 j2) M) (fun M3 => zg_M_pages_76 X l0 l2 0 0 M3))))) := (zR_step X _).trans rfl
set_option maxRecDepth 50000 in
theorem zg_M_pages_76_e (X : zv_X) (l0 : Nat) (l2 l3 l4 : Int32) (M : zv_M) : zg_M_pages_76 X l0 l2 l3 l4 M = if l2 ≤ l4 then zg_M_pages_199 X l3 M else zv_ob M 12 l0 (zv_ci (zg_M_pieceOf_0 X l0 0 l4 M) (fun v2 M1 => zv_ob M1 12 l0 (zv_rf (M1.2.2.2 l0 17) (fun p3 => zv_iq M1 p3 0 (fun j4 => zv_rf (M1.2.2.2 p3 j4) (fun p5 => zv_ix M1 0 p5 l4 (fun j6 => zv_ob M1 12 l0 (zv_ci (zg_M_guessOf_0 X l0 0 v2 (M1.2.1 p5 j6) M1) (fun v8 M7 => zv_ob M7 12 l0 (zv_rf (M7.2.2.2 l0 0) (fun p9 => zv_ix M7 0 p9 0 (fun j10 => if 0 ≤ (v8 - (M7.2.1 p9 j10)) then zg_M_pages_121 X l0 l2 l3 l4 v8 M7 else zg_M_pages_130 X l0 l2 l3 l4 v8 0 M7)))))))))))) := (zR_step X _).trans rfl
set_option maxRecDepth 50000 in
theorem zg_M_pages_121_e (X : zv_X) (l0 : Nat) (l2 l3 l4 l5 : Int32) (M : zv_M) : zg_M_pages_121 X l0 l2 l3 l4 l5 M = zv_ob M 12 l0 (zv_rf (M.2.2.2 l0 0) (fun p1 => zv_ix M 0 p1 0 (fun j2 => zg_M_pages_130 X l0 l2 l3 l4 l5 (l5 - (M.2.1 p1 j2)) M))) := (zR_step X _).trans rfl
set_option maxRecDepth 50000 in
theorem zg_M_pages_130_e (X : zv_X) (l0 : Nat) (l2 l3 l4 l5 s0 : Int32) (M : zv_M) : zg_M_pages_130 X l0 l2 l3 l4 l5 s0 M = zv_ob M 12 l0 (zv_rf (M.2.2.2 l0 0) (fun p1 => zv_ix M 0 p1 0 (fun j2 => if (l5 + (M.2.1 p1 j2)) ≤ (l2 - 1) then zg_M_pages_153 X l0 l2 l3 l4 l5 s0 M else zg_M_pages_162 X l0 l2 l3 l4 s0 (l2 - 1) M))) := (zR_step X _).trans rfl
set_option maxRecDepth 50000 in
theorem zg_M_pages_153_e (X : zv_X) (l0 : Nat) (l2 l3 l4 l5 l6 : Int32) (M : zv_M) : zg_M_pages_153 X l0 l2 l3 l4 l5 l6 M = zv_ob M 12 l0 (zv_rf (M.2.2.2 l0 0) (fun p1 => zv_ix M 0 p1 0 (fun j2 => zg_M_pages_162 X l0 l2 l3 l4 l6 (l5 + (M.2.1 p1 j2)) M))) := (zR_step X _).trans rfl
set_option maxRecDepth 50000 in
theorem zg_M_pages_162_e (X : zv_X) (l0 : Nat) (l2 l3 l4 l6 s0 : Int32) (M : zv_M) : zg_M_pages_162 X l0 l2 l3 l4 l6 s0 M = zv_ob M 12 l0 (zv_rf (M.2.2.2 l0 0) (fun p1 => zv_ix M 0 p1 3 (fun j2 => if (M.2.1 p1 j2) = 0 then none else zv_ob M 12 l0 (zv_rf (M.2.2.2 l0 0) (fun p3 => zv_ix M 0 p3 3 (fun j4 => if (M.2.1 p3 j4) = 0 then none else zv_ob M 12 l0 (zg_M_pages_76 X l0 l2 (l3 + ((((s0 / (M.2.1 p1 j2)) - (l6 / (M.2.1 p3 j4))) + 1) + (M.2.1 l0 25))) (l4 + 1) M))))))) := (zR_step X _).trans rfl
set_option maxRecDepth 50000 in
theorem zg_M_pages_199_e (X : zv_X) (l3 : Int32) (M : zv_M) : zg_M_pages_199 X l3 M = some (some (.int l3), M) := (zR_step X _).trans rfl
set_option maxRecDepth 50000 in
theorem zg_M_errors_0_e (X : zv_X) (l0 : Nat) (l1 l2 : Int32) (M : zv_M) : zg_M_errors_0 X l0 l1 l2 M = zv_ob M 12 l0 (zv_rf (M.2.2.2 l0 0) (fun p1 => zv_ix M 0 p1 0 (fun j2 => zv_ob M 12 l0 (zv_cv (zg_M_laysRow_0 X l0 (M.2.1 p1 j2) M) (fun M3 => zv_ob M3 12 l0 (zv_ci (zg_M_isIn_0 X l1 0 ((M3.2.1 l0 25) - 1) M3) (fun v5 M4 => if v5 = 0 then zg_M_errors_33 X M4 else zv_ci (zg_M_isIn_0 X l2 0 2 M4) (fun v7 M6 => if v7 = 0 then zg_M_errors_33 X M6 else zg_M_errors_35 X l0 l1 l2 M6)))))))) := (zR_step X _).trans rfl
set_option maxRecDepth 50000 in
theorem zg_M_errors_33_e (X : zv_X) (M : zv_M) : zg_M_errors_33 X M = some (some (.int (-1)), M) := (zR_step X _).trans rfl
set_option maxRecDepth 50000 in
theorem zg_M_errors_35_e (X : zv_X) (l0 : Nat) (l1 l2 : Int32) (M : zv_M) : zg_M_errors_35 X l0 l1 l2 M = zg_M_errors_46 X l0 l1 l2 0 (-1) 0 0 M := (zR_step X _).trans rfl
set_option maxRecDepth 50000 in
theorem zg_M_errors_46_e (X : zv_X) (l0 : Nat) (l1 l2 l3 l4 l5 l6 : Int32) (M : zv_M) : zg_M_errors_46 X l0 l1 l2 l3 l4 l5 l6 M = zv_ob M 12 l0 (zv_rf (M.2.2.2 l0 22) (fun p1 => zv_ix M 0 p1 l1 (fun j2 => if (M.2.1 p1 j2) ≤ l6 then zg_M_errors_127 X l2 l3 l4 l5 M else zv_ob M 12 l0 (zv_ci (zg_M_pieceOf_0 X l0 l1 l6 M) (fun v4 M3 => zv_ob M3 12 l0 (zv_rf (M3.2.2.2 l0 17) (fun p5 => zv_iq M3 p5 l1 (fun j6 => zv_rf (M3.2.2.2 p5 j6) (fun p7 => zv_ix M3 0 p7 l6 (fun j8 => zv_ob M3 12 l0 (zv_ci (zg_M_guessOf_0 X l0 l1 v4 (M3.2.1 p7 j8) M3) (fun v10 M9 => if 0 ≤ (v10 - l6) then zg_M_errors_94 X l0 l1 l2 l3 l4 l5 l6 (v10 - l6) M9 else zg_M_errors_96 X l0 l1 l2 l3 l4 l5 l6 (-(v10 - l6)) M9)))))))))))) := (zR_step X _).trans rfl
set_option maxRecDepth 50000 in
theorem zg_M_errors_94_e (X : zv_X) (l0 : Nat) (l1 l2 l3 l4 l5 l6 l7 : Int32) (M : zv_M) : zg_M_errors_94 X l0 l1 l2 l3 l4 l5 l6 l7 M = zg_M_errors_96 X l0 l1 l2 l3 l4 l5 l6 l7 M := (zR_step X _).trans rfl
set_option maxRecDepth 50000 in
theorem zg_M_errors_96_e (X : zv_X) (l0 : Nat) (l1 l2 l3 l4 l5 l6 s0 : Int32) (M : zv_M) : zg_M_errors_96 X l0 l1 l2 l3 l4 l5 l6 s0 M = if l4 < s0 then zg_M_errors_113 X l0 l1 l2 (l3 + s0) l6 s0 M else zg_M_errors_121 X l0 l1 l2 (l3 + s0) l4 l5 l6 M := (zR_step X _).trans rfl
set_option maxRecDepth 50000 in
theorem zg_M_errors_113_e (X : zv_X) (l0 : Nat) (l1 l2 l3 l6 l7 : Int32) (M : zv_M) : zg_M_errors_113 X l0 l1 l2 l3 l6 l7 M = zg_M_errors_121 X l0 l1 l2 l3 l7 l6 l6 M := (zR_step X _).trans rfl
set_option maxRecDepth 50000 in
theorem zg_M_errors_121_e (X : zv_X) (l0 : Nat) (l1 l2 l3 l4 l5 l6 : Int32) (M : zv_M) : zg_M_errors_121 X l0 l1 l2 l3 l4 l5 l6 M = zg_M_errors_46 X l0 l1 l2 l3 l4 l5 (l6 + 1) M := (zR_step X _).trans rfl
set_option maxRecDepth 50000 in
theorem zg_M_errors_127_e (X : zv_X) (l2 l3 l4 l5 : Int32) (M : zv_M) : zg_M_errors_127 X l2 l3 l4 l5 M = if l2 = 0 then zg_M_errors_147 X l4 M else zg_M_errors_136 X l2 l3 l5 M := (zR_step X _).trans rfl
set_option maxRecDepth 50000 in
theorem zg_M_errors_136_e (X : zv_X) (l2 l3 l5 : Int32) (M : zv_M) : zg_M_errors_136 X l2 l3 l5 M = if l2 = 1 then zg_M_errors_147 X l3 M else zg_M_errors_145 X l5 M := (zR_step X _).trans rfl
set_option maxRecDepth 50000 in
theorem zg_M_errors_145_e (X : zv_X) (l5 : Int32) (M : zv_M) : zg_M_errors_145 X l5 M = zg_M_errors_147 X l5 M := (zR_step X _).trans rfl
set_option maxRecDepth 50000 in
theorem zg_M_errors_147_e (X : zv_X) (s0 : Int32) (M : zv_M) : zg_M_errors_147 X s0 M = some (some (.int s0), M) := (zR_step X _).trans rfl
set_option maxRecDepth 50000 in
theorem zg_M_bestSlack_0_e (X : zv_X) (l0 : Nat) (l1 : Int32) (M : zv_M) : zg_M_bestSlack_0 X l0 l1 M = zv_ci (zg_M_isIn_0 X l1 0 1 M) (fun v2 M1 => if v2 = 0 then some (some (.int (-1)), M1) else zg_M_bestSlack_11 X l0 l1 M1) := (zR_step X _).trans rfl
set_option maxRecDepth 50000 in
theorem zg_M_bestSlack_11_e (X : zv_X) (l0 : Nat) (l1 : Int32) (M : zv_M) : zg_M_bestSlack_11 X l0 l1 M = zv_ob M 12 l0 (zv_rf (M.2.2.2 l0 0) (fun p1 => zv_ix M 0 p1 8 (fun j2 => if (M.2.1 p1 j2) = 0 then some (some (.int 0), M) else zg_M_bestSlack_23 X l0 l1 M))) := (zR_step X _).trans rfl
set_option maxRecDepth 50000 in
theorem zg_M_bestSlack_23_e (X : zv_X) (l0 : Nat) (l1 : Int32) (M : zv_M) : zg_M_bestSlack_23 X l0 l1 M = zg_M_bestSlack_30 X l0 l1 (-1) 0 0 M := (zR_step X _).trans rfl
set_option maxRecDepth 50000 in
theorem zg_M_bestSlack_30_e (X : zv_X) (l0 : Nat) (l1 l2 l3 l4 : Int32) (M : zv_M) : zg_M_bestSlack_30 X l0 l1 l2 l3 l4 M = if 20 < l4 then zg_M_bestSlack_147 X l1 l2 l3 M else zv_ob M 12 l0 (zv_cv (zg_M_laysRow_0 X l0 l4 M) (fun M1 => zg_M_bestSlack_49 X l0 l1 l2 l3 l4 0 0 M1)) := (zR_step X _).trans rfl
set_option maxRecDepth 50000 in
theorem zg_M_bestSlack_49_e (X : zv_X) (l0 : Nat) (l1 l2 l3 l4 l5 l6 : Int32) (M : zv_M) : zg_M_bestSlack_49 X l0 l1 l2 l3 l4 l5 l6 M = zv_ob M 12 l0 (if (M.2.1 l0 25) ≤ l6 then zg_M_bestSlack_76 X l0 l1 l2 l3 l4 l5 M else zv_ob M 12 l0 (zv_rf (M.2.2.2 l0 23) (fun p1 => zv_ix M 0 p1 l6 (fun j2 => zg_M_bestSlack_49 X l0 l1 l2 l3 l4 (l5 + (M.2.1 p1 j2)) (l6 + 1) M)))) := (zR_step X _).trans rfl
set_option maxRecDepth 50000 in
theorem zg_M_bestSlack_76_e (X : zv_X) (l0 : Nat) (l1 l2 l3 l4 l5 : Int32) (M : zv_M) : zg_M_bestSlack_76 X l0 l1 l2 l3 l4 l5 M = zg_M_bestSlack_79 X l0 l1 l2 l3 l4 l5 0 M := (zR_step X _).trans rfl
set_option maxRecDepth 50000 in
theorem zg_M_bestSlack_79_e (X : zv_X) (l0 : Nat) (l1 l2 l3 l4 l5 l6 : Int32) (M : zv_M) : zg_M_bestSlack_79 X l0 l1 l2 l3 l4 l5 l6 M = zv_ob M 12 l0 (zv_rf (M.2.2.2 l0 0) (fun p1 => zv_ix M 0 p1 8 (fun j2 => if (M.2.1 p1 j2) ≤ l6 then zg_M_bestSlack_121 X l0 l1 l2 l3 l4 l5 M else zv_ob M 12 l0 (zv_rf (M.2.2.2 l0 0) (fun p3 => zv_ix M 0 p3 (20 + l6) (fun j4 => zv_ob M 12 l0 (zv_ci (zg_M_seeks_0 X l0 (M.2.1 p3 j4) M) (fun v6 M5 => zv_ob M5 12 l0 (zg_M_bestSlack_79 X l0 l1 l2 l3 l4 (l5 + (M5.2.1 l0 30)) (l6 + 1) M5))))))))) := (zR_step X _).trans rfl
set_option maxRecDepth 50000 in
theorem zg_M_bestSlack_121_e (X : zv_X) (l0 : Nat) (l1 l2 l3 l4 l5 : Int32) (M : zv_M) : zg_M_bestSlack_121 X l0 l1 l2 l3 l4 l5 M = if l2 = (-1) then zg_M_bestSlack_135 X l0 l1 l4 l5 M else if l5 < l3 then zg_M_bestSlack_135 X l0 l1 l4 l5 M else zg_M_bestSlack_141 X l0 l1 l2 l3 l4 M := (zR_step X _).trans rfl
set_option maxRecDepth 50000 in
theorem zg_M_bestSlack_135_e (X : zv_X) (l0 : Nat) (l1 l4 l5 : Int32) (M : zv_M) : zg_M_bestSlack_135 X l0 l1 l4 l5 M = zg_M_bestSlack_141 X l0 l1 l4 l5 l4 M := (zR_step X _).trans rfl
set_option maxRecDepth 50000 in
theorem zg_M_bestSlack_141_e (X : zv_X) (l0 : Nat) (l1 l2 l3 l4 : Int32) (M : zv_M) : zg_M_bestSlack_141 X l0 l1 l2 l3 l4 M = zg_M_bestSlack_30 X l0 l1 l2 l3 (l4 + 1) M := (zR_step X _).trans rfl
set_option maxRecDepth 50000 in
theorem zg_M_bestSlack_147_e (X : zv_X) (l1 l2 l3 : Int32) (M : zv_M) : zg_M_bestSlack_147 X l1 l2 l3 M = if l1 = 0 then zg_M_bestSlack_156 X l2 M else zg_M_bestSlack_155 X l3 M := (zR_step X _).trans rfl
set_option maxRecDepth 50000 in
theorem zg_M_bestSlack_155_e (X : zv_X) (l3 : Int32) (M : zv_M) : zg_M_bestSlack_155 X l3 M = zg_M_bestSlack_156 X l3 M := (zR_step X _).trans rfl
set_option maxRecDepth 50000 in
theorem zg_M_bestSlack_156_e (X : zv_X) (s0 : Int32) (M : zv_M) : zg_M_bestSlack_156 X s0 M = some (some (.int s0), M) := (zR_step X _).trans rfl
set_option maxRecDepth 50000 in
theorem zg_M_lay_0_e (X : zv_X) (l0 : Nat) (M : zv_M) : zg_M_lay_0 X l0 M = zv_ob M 12 l0 (zv_ci (zg_M_laysAll_0 X l0 M) (fun v2 M1 => if v2 ≤ 48 then zg_M_lay_16 X l0 v2 M1 else zg_M_lay_17 X l0 48 M1)) := (zR_step X _).trans rfl
set_option maxRecDepth 50000 in
theorem zg_M_lay_16_e (X : zv_X) (l0 : Nat) (l1 : Int32) (M : zv_M) : zg_M_lay_16 X l0 l1 M = zg_M_lay_17 X l0 l1 M := (zR_step X _).trans rfl
set_option maxRecDepth 50000 in
theorem zg_M_lay_17_e (X : zv_X) (l0 : Nat) (s0 : Int32) (M : zv_M) : zg_M_lay_17 X l0 s0 M = zg_M_lay_20 X l0 s0 0 M := (zR_step X _).trans rfl
