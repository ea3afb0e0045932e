/-! blocks 780 to 910 -/
set_option maxRecDepth 50000 in
theorem zg_M_lay_20_e (X : zv_X) (l0 : Nat) (l1 l2 : Int32) (M : zv_M) : zg_M_lay_20 X l0 l1 l2 M = if 64 ≤ l2 then zg_M_lay_43 X l0 l1 M else zv_ob M 12 l0 (zv_rf (M.2.2.2 l0 0) (fun p1 => zv_ix M 0 p1 (1604 + l2) (fun j2 => zg_M_lay_20 X l0 l1 (l2 + 1) (zv_wI M p1 j2 0)))) := (zR_step X _).trans rfl
set_option maxRecDepth 50000 in
theorem zg_M_lay_43_e (X : zv_X) (l0 : Nat) (l1 : Int32) (M : zv_M) : zg_M_lay_43 X l0 l1 M = zg_M_lay_45 X l0 l1 0 M := (zR_step X _).trans rfl
set_option maxRecDepth 50000 in
theorem zg_M_lay_45_e (X : zv_X) (l0 : Nat) (l1 l2 : Int32) (M : zv_M) : zg_M_lay_45 X l0 l1 l2 M = if l1 ≤ l2 then zg_M_lay_72 X l1 M else if l1 = 0 then none else zv_ob M 12 l0 (zv_rf (M.2.2.2 l0 4) (fun p1 => zv_ix M 0 p1 l2 (fun j2 => zv_ob M 12 l0 (zv_cv (zg_M_fills_0 X l0 ((64 * l2) / l1) (M.2.1 p1 j2) M) (fun M3 => zg_M_lay_45 X l0 l1 (l2 + 1) M3))))) := (zR_step X _).trans rfl
set_option maxRecDepth 50000 in
theorem zg_M_lay_72_e (X : zv_X) (l1 : Int32) (M : zv_M) : zg_M_lay_72 X l1 M = some (some (.int l1), M) := (zR_step X _).trans rfl
set_option maxRecDepth 50000 in
theorem zg_M_fills_0_e (X : zv_X) (l0 : Nat) (l1 l2 : Int32) (M : zv_M) : zg_M_fills_0 X l0 l1 l2 M = zv_ob M 12 l0 (zv_rf (M.2.2.2 l0 0) (fun p1 => zv_ix M 0 p1 (1540 + l1) (fun j2 => zv_ob (zv_wI M p1 j2 l2) 12 l0 (zv_rf ((zv_wI M p1 j2 l2).2.2.2 l0 0) (fun p3 => zv_ix (zv_wI M p1 j2 l2) 0 p3 (1604 + l1) (fun j4 => some (none, zv_wI (zv_wI M p1 j2 l2) p3 j4 1))))))) := (zR_step X _).trans rfl
set_option maxRecDepth 50000 in
theorem zg_M_isFull_0_e (X : zv_X) (l0 : Nat) (l1 : Int32) (M : zv_M) : zg_M_isFull_0 X l0 l1 M = zv_ob M 12 l0 (zv_rf (M.2.2.2 l0 0) (fun p1 => zv_ix M 0 p1 (1604 + l1) (fun j2 => if (M.2.1 p1 j2) = 1 then zg_M_isFull_19 X 1 M else zg_M_isFull_18 X M))) := (zR_step X _).trans rfl
set_option maxRecDepth 50000 in
theorem zg_M_isFull_18_e (X : zv_X) (M : zv_M) : zg_M_isFull_18 X M = zg_M_isFull_19 X 0 M := (zR_step X _).trans rfl
set_option maxRecDepth 50000 in
theorem zg_M_isFull_19_e (X : zv_X) (s0 : Int32) (M : zv_M) : zg_M_isFull_19 X s0 M = zv_rb s0 M := (zR_step X _).trans rfl
set_option maxRecDepth 50000 in
theorem zg_M_put_0_e (X : zv_X) (l0 : Nat) (l1 : Int32) (M : zv_M) : zg_M_put_0 X l0 l1 M = zv_ci (zg_M_isNumber_0 X l1 M) (fun v2 M1 => if v2 = 0 then some (some (.int (-1)), M1) else zg_M_put_9 X l0 l1 M1) := (zR_step X _).trans rfl
set_option maxRecDepth 50000 in
theorem zg_M_put_9_e (X : zv_X) (l0 : Nat) (l1 : Int32) (M : zv_M) : zg_M_put_9 X l0 l1 M = zg_M_put_20 X l0 l1 (-1) 64 0 0 M := (zR_step X _).trans rfl
set_option maxRecDepth 50000 in
theorem zg_M_put_20_e (X : zv_X) (l0 : Nat) (l1 l2 l3 l4 l5 : Int32) (M : zv_M) : zg_M_put_20 X l0 l1 l2 l3 l4 l5 M = if 64 ≤ l5 then zg_M_put_95 X l0 l1 l2 l3 l4 M else zv_ob M 12 l0 (zv_ci (zg_M_isFull_0 X l0 l5 M) (fun v2 M1 => if v2 = 0 then zg_M_put_89 X l0 l1 l2 l3 l4 l5 M1 else zg_M_put_39 X l0 l1 l2 l3 l4 l5 M1)) := (zR_step X _).trans rfl
set_option maxRecDepth 50000 in
theorem zg_M_put_39_e (X : zv_X) (l0 : Nat) (l1 l2 l3 l4 l5 : Int32) (M : zv_M) : zg_M_put_39 X l0 l1 l2 l3 l4 l5 M = zv_ob M 12 l0 (zv_rf (M.2.2.2 l0 0) (fun p1 => zv_ix M 0 p1 (1540 + l5) (fun j2 => if (M.2.1 p1 j2) = l1 then some (some (.int (-1)), M) else zg_M_put_59 X l0 l1 l2 l3 (l4 + 1) l5 M))) := (zR_step X _).trans rfl
set_option maxRecDepth 50000 in
theorem zg_M_put_59_e (X : zv_X) (l0 : Nat) (l1 l2 l3 l4 l5 : Int32) (M : zv_M) : zg_M_put_59 X l0 l1 l2 l3 l4 l5 M = zv_ob M 12 l0 (zv_rf (M.2.2.2 l0 0) (fun p1 => zv_ix M 0 p1 (1540 + l5) (fun j2 => if l1 ≤ (M.2.1 p1 j2) then zg_M_put_80 X l0 l1 l2 l3 l4 l5 M else zg_M_put_89 X l0 l1 l5 l3 l4 l5 M))) := (zR_step X _).trans rfl
set_option maxRecDepth 50000 in
theorem zg_M_put_80_e (X : zv_X) (l0 : Nat) (l1 l2 l3 l4 l5 : Int32) (M : zv_M) : zg_M_put_80 X l0 l1 l2 l3 l4 l5 M = if l3 = 64 then zg_M_put_89 X l0 l1 l2 l5 l4 l5 M else zg_M_put_89 X l0 l1 l2 l3 l4 l5 M := (zR_step X _).trans rfl
set_option maxRecDepth 50000 in
theorem zg_M_put_89_e (X : zv_X) (l0 : Nat) (l1 l2 l3 l4 l5 : Int32) (M : zv_M) : zg_M_put_89 X l0 l1 l2 l3 l4 l5 M = zg_M_put_20 X l0 l1 l2 l3 l4 (l5 + 1) M := (zR_step X _).trans rfl
set_option maxRecDepth 50000 in
theorem zg_M_put_95_e (X : zv_X) (l0 : Nat) (l1 l2 l3 l4 : Int32) (M : zv_M) : zg_M_put_95 X l0 l1 l2 l3 l4 M = if l4 = 64 then some (some (.int (-1)), M) else zg_M_put_104 X l0 l1 l2 l3 M := (zR_step X _).trans rfl
set_option maxRecDepth 50000 in
theorem zg_M_put_104_e (X : zv_X) (l0 : Nat) (l1 l2 l3 : Int32) (M : zv_M) : zg_M_put_104 X l0 l1 l2 l3 M = if (l3 - l2) ≤ 1 then zg_M_put_133 X l0 l1 l2 l3 M else if 0 ≤ (l2 + l3) then zg_M_put_122 X l1 l2 l3 l0 M else zg_M_put_127 X l1 0 l0 M := (zR_step X _).trans rfl
set_option maxRecDepth 50000 in
theorem zg_M_put_122_e (X : zv_X) (l1 l2 l3 : Int32) (s0 : Nat) (M : zv_M) : zg_M_put_122 X l1 l2 l3 s0 M = if (2 : Int32) = 0 then none else zg_M_put_127 X l1 ((l2 + l3) / 2) s0 M := (zR_step X _).trans rfl
set_option maxRecDepth 50000 in
theorem zg_M_put_127_e (X : zv_X) (l1 s0 : Int32) (s1 : Nat) (M : zv_M) : zg_M_put_127 X l1 s0 s1 M = zv_ob M 12 s1 (zv_cv (zg_M_fills_0 X s1 s0 l1 M) (fun M1 => some (some (.int 0), M1))) := (zR_step X _).trans rfl
set_option maxRecDepth 50000 in
theorem zg_M_put_133_e (X : zv_X) (l0 : Nat) (l1 l2 l3 : Int32) (M : zv_M) : zg_M_put_133 X l0 l1 l2 l3 M = zg_M_put_136 X l0 l1 l2 l3 l2 M := (zR_step X _).trans rfl
set_option maxRecDepth 50000 in
theorem zg_M_put_136_e (X : zv_X) (l0 : Nat) (l1 l2 l3 l5 : Int32) (M : zv_M) : zg_M_put_136 X l0 l1 l2 l3 l5 M = if l5 < 0 then zg_M_put_156 X l0 l1 l2 l3 l5 M else zv_ob M 12 l0 (zv_ci (zg_M_isFull_0 X l0 l5 M) (fun v2 M1 => if v2 = 0 then zg_M_put_156 X l0 l1 l2 l3 l5 M1 else zg_M_put_136 X l0 l1 l2 l3 (l5 + (-1)) M1)) := (zR_step X _).trans rfl
set_option maxRecDepth 50000 in
theorem zg_M_put_156_e (X : zv_X) (l0 : Nat) (l1 l2 l3 l5 : Int32) (M : zv_M) : zg_M_put_156 X l0 l1 l2 l3 l5 M = zg_M_put_159 X l0 l1 l2 l3 l5 l3 M := (zR_step X _).trans rfl
set_option maxRecDepth 50000 in
theorem zg_M_put_159_e (X : zv_X) (l0 : Nat) (l1 l2 l3 l5 l6 : Int32) (M : zv_M) : zg_M_put_159 X l0 l1 l2 l3 l5 l6 M = if 64 ≤ l6 then zg_M_put_181 X l0 l1 l2 l3 l5 l6 M else zv_ob M 12 l0 (zv_ci (zg_M_isFull_0 X l0 l6 M) (fun v2 M1 => if v2 = 0 then zg_M_put_181 X l0 l1 l2 l3 l5 l6 M1 else zg_M_put_159 X l0 l1 l2 l3 l5 (l6 + 1) M1)) := (zR_step X _).trans rfl
set_option maxRecDepth 50000 in
theorem zg_M_put_181_e (X : zv_X) (l0 : Nat) (l1 l2 l3 l5 l6 : Int32) (M : zv_M) : zg_M_put_181 X l0 l1 l2 l3 l5 l6 M = if l5 < 0 then zg_M_put_208 X l0 l1 l2 l3 l5 l6 M else if l6 = 64 then zg_M_put_204 X l0 l1 l2 l3 l5 l6 M else if (l6 - l3) < (l2 - l5) then zg_M_put_208 X l0 l1 l2 l3 l5 l6 M else zg_M_put_204 X l0 l1 l2 l3 l5 l6 M := (zR_step X _).trans rfl
set_option maxRecDepth 50000 in
theorem zg_M_put_204_e (X : zv_X) (l0 : Nat) (l1 l2 l3 l5 l6 : Int32) (M : zv_M) : zg_M_put_204 X l0 l1 l2 l3 l5 l6 M = zg_M_put_209 X l0 l1 l2 l3 l5 l6 1 M := (zR_step X _).trans rfl
set_option maxRecDepth 50000 in
theorem zg_M_put_208_e (X : zv_X) (l0 : Nat) (l1 l2 l3 l5 l6 : Int32) (M : zv_M) : zg_M_put_208 X l0 l1 l2 l3 l5 l6 M = zg_M_put_209 X l0 l1 l2 l3 l5 l6 0 M := (zR_step X _).trans rfl
set_option maxRecDepth 50000 in
theorem zg_M_put_209_e (X : zv_X) (l0 : Nat) (l1 l2 l3 l5 l6 s0 : Int32) (M : zv_M) : zg_M_put_209 X l0 l1 l2 l3 l5 l6 s0 M = if s0 = 0 then zg_M_put_223 X l0 l1 l2 l3 l5 l6 s0 M else zg_M_put_227 X l0 l1 l2 l3 l5 l6 s0 (l2 - l5) M := (zR_step X _).trans rfl
set_option maxRecDepth 50000 in
theorem zg_M_put_223_e (X : zv_X) (l0 : Nat) (l1 l2 l3 l5 l6 l7 : Int32) (M : zv_M) : zg_M_put_223 X l0 l1 l2 l3 l5 l6 l7 M = zg_M_put_227 X l0 l1 l2 l3 l5 l6 l7 (l6 - l3) M := (zR_step X _).trans rfl
set_option maxRecDepth 50000 in
theorem zg_M_put_227_e (X : zv_X) (l0 : Nat) (l1 l2 l3 l5 l6 l7 s0 : Int32) (M : zv_M) : zg_M_put_227 X l0 l1 l2 l3 l5 l6 l7 s0 M = zg_M_put_232 X l0 l1 l2 l3 l5 l6 l7 s0 0 M := (zR_step X _).trans rfl
set_option maxRecDepth 50000 in
theorem zg_M_put_232_e (X : zv_X) (l0 : Nat) (l1 l2 l3 l5 l6 l7 l8 l9 : Int32) (M : zv_M) : zg_M_put_232 X l0 l1 l2 l3 l5 l6 l7 l8 l9 M = if l8 ≤ l9 then zg_M_put_298 X l0 l1 l2 l3 l7 l8 M else if l7 = 0 then zg_M_put_253 X l0 l1 l2 l3 l5 l6 l7 l8 l9 l0 M else zg_M_put_258 X l0 l1 l2 l3 l5 l6 l7 l8 l9 (l5 + l9) l0 M := (zR_step X _).trans rfl
set_option maxRecDepth 50000 in
theorem zg_M_put_253_e (X : zv_X) (l0 : Nat) (l1 l2 l3 l5 l6 l7 l8 l9 : Int32) (s0 : Nat) (M : zv_M) : zg_M_put_253 X l0 l1 l2 l3 l5 l6 l7 l8 l9 s0 M = zg_M_put_258 X l0 l1 l2 l3 l5 l6 l7 l8 l9 (l6 - l9) s0 M := (zR_step X _).trans rfl
set_option maxRecDepth 50000 in
theorem zg_M_put_258_e (X : zv_X) (l0 : Nat) (l1 l2 l3 l5 l6 l7 l8 l9 s0 : Int32) (s1 : Nat) (M : zv_M) : zg_M_put_258 X l0 l1 l2 l3 l5 l6 l7 l8 l9 s0 s1 M = zv_ob M 12 l0 (zv_rf (M.2.2.2 l0 0) (fun p1 => if l7 = 0 then zg_M_put_280 X l0 l1 l2 l3 l5 l6 l7 l8 l9 1540 p1 s0 s1 M else zg_M_put_287 X l0 l1 l2 l3 l5 l6 l7 l8 l9 ((l5 + l9) + 1) 1540 p1 s0 s1 M)) := (zR_step X _).trans rfl
set_option maxRecDepth 50000 in
theorem zg_M_put_280_e (X : zv_X) (l0 : Nat) (l1 l2 l3 l5 l6 l7 l8 l9 s0 : Int32) (s1 : Nat) (s2 : Int32) (s3 : Nat) (M : zv_M) : zg_M_put_280 X l0 l1 l2 l3 l5 l6 l7 l8 l9 s0 s1 s2 s3 M = zg_M_put_287 X l0 l1 l2 l3 l5 l6 l7 l8 l9 ((l6 - l9) - 1) s0 s1 s2 s3 M := (zR_step X _).trans rfl
set_option maxRecDepth 50000 in
theorem zg_M_put_287_e (X : zv_X) (l0 : Nat) (l1 l2 l3 l5 l6 l7 l8 l9 s0 s1 : Int32) (s2 : Nat) (s3 : Int32) (s4 : Nat) (M : zv_M) : zg_M_put_287 X l0 l1 l2 l3 l5 l6 l7 l8 l9 s0 s1 s2 s3 s4 M = zv_ix M 0 s2 (s1 + s0) (fun j1 => zv_ob M 12 s4 (zv_cv (zg_M_fills_0 X s4 s3 (M.2.1 s2 j1) M) (fun M2 => zg_M_put_232 X l0 l1 l2 l3 l5 l6 l7 l8 (l9 + 1) M2))) := (zR_step X _).trans rfl
set_option maxRecDepth 50000 in
theorem zg_M_put_298_e (X : zv_X) (l0 : Nat) (l1 l2 l3 l7 l8 : Int32) (M : zv_M) : zg_M_put_298 X l0 l1 l2 l3 l7 l8 M = if l7 = 0 then zg_M_put_308 X l1 l3 l8 l0 M else zg_M_put_309 X l1 l8 l2 l0 M := (zR_step X _).trans rfl
set_option maxRecDepth 50000 in
theorem zg_M_put_308_e (X : zv_X) (l1 l3 l8 : Int32) (s0 : Nat) (M : zv_M) : zg_M_put_308 X l1 l3 l8 s0 M = zg_M_put_309 X l1 l8 l3 s0 M := (zR_step X _).trans rfl
set_option maxRecDepth 50000 in
theorem zg_M_put_309_e (X : zv_X) (l1 l8 s0 : Int32) (s1 : Nat) (M : zv_M) : zg_M_put_309 X l1 l8 s0 s1 M = zv_ob M 12 s1 (zv_cv (zg_M_fills_0 X s1 s0 l1 M) (fun M1 => some (some (.int l8), M1))) := (zR_step X _).trans rfl
set_option maxRecDepth 50000 in
theorem zg_M_cell_0_e (X : zv_X) (l0 : Nat) (l1 : Int32) (M : zv_M) : zg_M_cell_0 X l0 l1 M = zv_ci (zg_M_isIn_0 X l1 0 63 M) (fun v2 M1 => if v2 = 0 then zg_M_cell_31 X M1 else zv_ob M1 12 l0 (zv_ci (zg_M_isFull_0 X l0 l1 M1) (fun v4 M3 => if v4 = 0 then zg_M_cell_31 X M3 else zv_ob M3 12 l0 (zv_rf (M3.2.2.2 l0 0) (fun p5 => zv_ix M3 0 p5 (1540 + l1) (fun j6 => zg_M_cell_33 X (M3.2.1 p5 j6) M3)))))) := (zR_step X _).trans rfl
set_option maxRecDepth 50000 in
theorem zg_M_cell_31_e (X : zv_X) (M : zv_M) : zg_M_cell_31 X M = zg_M_cell_33 X (-1000000001) M := (zR_step X _).trans rfl
set_option maxRecDepth 50000 in
theorem zg_M_cell_33_e (X : zv_X) (s0 : Int32) (M : zv_M) : zg_M_cell_33 X s0 M = some (some (.int s0), M) := (zR_step X _).trans rfl
set_option maxRecDepth 50000 in
theorem zg_M_piecesWith_0_e (X : zv_X) (l0 : Nat) (l1 l2 l3 : Int32) (M : zv_M) : zg_M_piecesWith_0 X l0 l1 l2 l3 M = if l3 = 0 then zg_M_piecesWith_12 X l0 l1 l2 0 1 M else zg_M_piecesWith_11 X l0 l1 l2 0 M := (zR_step X _).trans rfl
set_option maxRecDepth 50000 in
theorem zg_M_piecesWith_11_e (X : zv_X) (l0 : Nat) (l1 l2 l4 : Int32) (M : zv_M) : zg_M_piecesWith_11 X l0 l1 l2 l4 M = zg_M_piecesWith_12 X l0 l1 l2 l4 0 M := (zR_step X _).trans rfl
set_option maxRecDepth 50000 in
theorem zg_M_piecesWith_12_e (X : zv_X) (l0 : Nat) (l1 l2 l4 s0 : Int32) (M : zv_M) : zg_M_piecesWith_12 X l0 l1 l2 l4 s0 M = zg_M_piecesWith_17 X l0 l1 l2 l4 s0 0 M := (zR_step X _).trans rfl
set_option maxRecDepth 50000 in
theorem zg_M_piecesWith_17_e (X : zv_X) (l0 : Nat) (l1 l2 l4 l5 l6 : Int32) (M : zv_M) : zg_M_piecesWith_17 X l0 l1 l2 l4 l5 l6 M = if l1 ≤ l6 then zg_M_piecesWith_80 X l0 l2 l4 l5 M else if l5 = 0 then zv_ob M 12 l0 (zv_rf (M.2.2.2 l0 4) (fun p1 => zv_ix M 0 p1 l6 (fun j2 => if (M.2.1 p1 j2) ≤ l2 then zg_M_piecesWith_55 X l0 l1 l2 l4 l5 l6 M else zv_ob M 12 l0 (zv_rf (M.2.2.2 l0 17) (fun p3 => zv_iq M p3 0 (fun j4 => zv_rf (M.2.2.2 p3 j4) (fun p5 => zv_ix M 0 p5 l4 (fun j6 => zg_M_piecesWith_55 X l0 l1 l2 (l4 + 1) 1 l6 (zv_wI M p5 j6 l2))))))))) else zg_M_piecesWith_55 X l0 l1 l2 l4 l5 l6 M := (zR_step X _).trans rfl
set_option maxRecDepth 50000 in
theorem zg_M_piecesWith_55_e (X : zv_X) (l0 : Nat) (l1 l2 l4 l5 l6 : Int32) (M : zv_M) : zg_M_piecesWith_55 X l0 l1 l2 l4 l5 l6 M = zv_ob M 12 l0 (zv_rf (M.2.2.2 l0 17) (fun p1 => zv_iq M p1 0 (fun j2 => zv_rf (M.2.2.2 p1 j2) (fun p3 => zv_ob M 12 l0 (zv_rf (M.2.2.2 l0 4) (fun p4 => zv_ix M 0 p4 l6 (fun j5 => zv_ix M 0 p3 l4 (fun j6 => zg_M_piecesWith_17 X l0 l1 l2 (l4 + 1) l5 (l6 + 1) (zv_wI M p3 j6 (M.2.1 p4 j5)))))))))) := (zR_step X _).trans rfl
set_option maxRecDepth 50000 in
theorem zg_M_piecesWith_80_e (X : zv_X) (l0 : Nat) (l2 l4 l5 : Int32) (M : zv_M) : zg_M_piecesWith_80 X l0 l2 l4 l5 M = if l5 = 0 then zv_ob M 12 l0 (zv_rf (M.2.2.2 l0 17) (fun p1 => zv_iq M p1 0 (fun j2 => zv_rf (M.2.2.2 p1 j2) (fun p3 => zv_ix M 0 p3 l4 (fun j4 => zg_M_piecesWith_98 X l0 (l4 + 1) (zv_wI M p3 j4 l2)))))) else zg_M_piecesWith_98 X l0 l4 M := (zR_step X _).trans rfl
set_option maxRecDepth 50000 in
theorem zg_M_piecesWith_98_e (X : zv_X) (l0 : Nat) (l4 : Int32) (M : zv_M) : zg_M_piecesWith_98 X l0 l4 M = zv_ob M 12 l0 (zv_rf (M.2.2.2 l0 22) (fun p1 => zv_ix M 0 p1 0 (fun j2 => zv_ob (zv_wI M p1 j2 l4) 12 l0 (zv_rf ((zv_wI M p1 j2 l4).2.2.2 l0 24) (fun p3 => zv_ob (zv_wI M p1 j2 l4) 12 l0 (zv_rf ((zv_wI M p1 j2 l4).2.2.2 l0 0) (fun p4 => zv_ix (zv_wI M p1 j2 l4) 0 p4 0 (fun j5 => zv_ix (zv_wI M p1 j2 l4) 0 p3 0 (fun j6 => zv_ob (zv_wI (zv_wI M p1 j2 l4) p3 j6 ((zv_wI M p1 j2 l4).2.1 p4 j5)) 12 l0 (zv_cv (zg_M_covers_0 X l0 0 (zv_wI (zv_wI M p1 j2 l4) p3 j6 ((zv_wI M p1 j2 l4).2.1 p4 j5))) (fun M7 => zv_ob M7 12 l0 (zv_rf (M7.2.2.2 l0 23) (fun p8 => zv_ix M7 0 p8 0 (fun j9 => some (some (.int (M7.2.1 p8 j9)), M7))))))))))))))) := (zR_step X _).trans rfl
set_option maxRecDepth 50000 in
theorem zg_M_poison_0_e (X : zv_X) (l0 : Nat) (l1 : Int32) (M : zv_M) : zg_M_poison_0 X l0 l1 M = zv_ci (zg_M_isIn_0 X l1 0 1 M) (fun v2 M1 => if v2 = 0 then some (some (.int (-1)), M1) else zg_M_poison_11 X l0 l1 M1) := (zR_step X _).trans rfl
set_option maxRecDepth 50000 in
theorem zg_M_poison_11_e (X : zv_X) (l0 : Nat) (l1 : Int32) (M : zv_M) : zg_M_poison_11 X l0 l1 M = zv_ob M 12 l0 (zv_ci (zg_M_laysAll_0 X l0 M) (fun v2 M1 => zg_M_poison_25 X l0 l1 v2 (-1000000001) (-1) 0 M1)) := (zR_step X _).trans rfl
set_option maxRecDepth 50000 in
theorem zg_M_poison_25_e (X : zv_X) (l0 : Nat) (l1 l2 l3 l4 l5 : Int32) (M : zv_M) : zg_M_poison_25 X l0 l1 l2 l3 l4 l5 M = if l2 ≤ l5 then zg_M_poison_124 X l0 l1 l2 l3 l4 M else zg_M_poison_34 X l0 l1 l2 l3 l4 l5 (-1) M := (zR_step X _).trans rfl
set_option maxRecDepth 50000 in
theorem zg_M_poison_34_e (X : zv_X) (l0 : Nat) (l1 l2 l3 l4 l5 l6 : Int32) (M : zv_M) : zg_M_poison_34 X l0 l1 l2 l3 l4 l5 l6 M = if 2 ≤ l6 then zg_M_poison_118 X l0 l1 l2 l3 l4 l5 M else zv_ob M 12 l0 (zv_rf (M.2.2.2 l0 4) (fun p1 => zv_ix M 0 p1 l5 (fun j2 => zv_ci (zg_M_isNumber_0 X ((M.2.1 p1 j2) + l6) M) (fun v4 M3 => if v4 = 0 then zg_M_poison_112 X l0 l1 l2 l3 l4 l5 l6 M3 else zv_ob M3 12 l0 (zv_ci (zg_M_count_0 X l0 ((M.2.1 p1 j2) + l6) M3) (fun v6 M5 => if v6 ≤ 0 then zg_M_poison_72 X l0 l1 l2 l3 l4 l5 l6 ((M.2.1 p1 j2) + l6) M5 else zg_M_poison_112 X l0 l1 l2 l3 l4 l5 l6 M5)))))) := (zR_step X _).trans rfl
set_option maxRecDepth 50000 in
theorem zg_M_poison_72_e (X : zv_X) (l0 : Nat) (l1 l2 l3 l4 l5 l6 l7 : Int32) (M : zv_M) : zg_M_poison_72 X l0 l1 l2 l3 l4 l5 l6 l7 M = zv_ob M 12 l0 (zv_ci (zg_M_piecesWith_0 X l0 l2 l7 1 M) (fun v2 M1 => if v2 < l4 then zg_M_poison_112 X l0 l1 l2 l3 l4 l5 l6 M1 else if v2 = l4 then if l7 < l3 then zg_M_poison_105 X l0 l1 l2 l5 l6 l7 v2 M1 else zg_M_poison_112 X l0 l1 l2 l3 l4 l5 l6 M1 else zg_M_poison_105 X l0 l1 l2 l5 l6 l7 v2 M1)) := (zR_step X _).trans rfl
set_option maxRecDepth 50000 in
theorem zg_M_poison_105_e (X : zv_X) (l0 : Nat) (l1 l2 l5 l6 l7 l8 : Int32) (M : zv_M) : zg_M_poison_105 X l0 l1 l2 l5 l6 l7 l8 M = zg_M_poison_112 X l0 l1 l2 l7 l8 l5 l6 M := (zR_step X _).trans rfl
set_option maxRecDepth 50000 in
theorem zg_M_poison_112_e (X : zv_X) (l0 : Nat) (l1 l2 l3 l4 l5 l6 : Int32) (M : zv_M) : zg_M_poison_112 X l0 l1 l2 l3 l4 l5 l6 M = zg_M_poison_34 X l0 l1 l2 l3 l4 l5 (l6 + 2) M := (zR_step X _).trans rfl
set_option maxRecDepth 50000 in
theorem zg_M_poison_118_e (X : zv_X) (l0 : Nat) (l1 l2 l3 l4 l5 : Int32) (M : zv_M) : zg_M_poison_118 X l0 l1 l2 l3 l4 l5 M = zg_M_poison_25 X l0 l1 l2 l3 l4 (l5 + 1) M := (zR_step X _).trans rfl
set_option maxRecDepth 50000 in
theorem zg_M_poison_124_e (X : zv_X) (l0 : Nat) (l1 l2 l3 l4 : Int32) (M : zv_M) : zg_M_poison_124 X l0 l1 l2 l3 l4 M = if l1 = 0 then zg_M_poison_150 X l3 M else zg_M_poison_132 X l0 l2 l3 l4 M := (zR_step X _).trans rfl
set_option maxRecDepth 50000 in
theorem zg_M_poison_132_e (X : zv_X) (l0 : Nat) (l2 l3 l4 : Int32) (M : zv_M) : zg_M_poison_132 X l0 l2 l3 l4 M = if l3 = (-1000000001) then zv_ob M 12 l0 (zv_ci (zg_M_piecesWith_0 X l0 l2 0 0 M) (fun v2 M1 => zg_M_poison_150 X v2 M1)) else zg_M_poison_148 X l4 M := (zR_step X _).trans rfl
set_option maxRecDepth 50000 in
theorem zg_M_poison_148_e (X : zv_X) (l4 : Int32) (M : zv_M) : zg_M_poison_148 X l4 M = zg_M_poison_150 X l4 M := (zR_step X _).trans rfl
set_option maxRecDepth 50000 in
theorem zg_M_poison_150_e (X : zv_X) (s0 : Int32) (M : zv_M) : zg_M_poison_150 X s0 M = some (some (.int s0), M) := (zR_step X _).trans rfl
set_option maxRecDepth 50000 in
theorem zg_M_hash_0_e (X : zv_X) (l0 : Nat) (l1 l2 : Int32) (M : zv_M) : zg_M_hash_0 X l0 l1 l2 M = if (2147483647 : Int64) = 0 then none else zv_ob M 12 l0 (zv_rf (M.2.2.2 l0 0) (fun p1 => zv_ix M 0 p1 5 (fun j2 => if (Int32.toInt64 (M.2.1 p1 j2)) = 0 then none else some (some (.int (Int64.toInt32 ((((((Int32.toInt64 l1) + 1000000000) * (40503 + (2 * (Int32.toInt64 l2)))) + (977 * (Int32.toInt64 l2))) - ((((Int32.toInt64 l1) + 1000000000) * (40503 + (2 * (Int32.toInt64 l2)))) + (977 * (Int32.toInt64 l2))) / 2147483647 * 2147483647) - (((((Int32.toInt64 l1) + 1000000000) * (40503 + (2 * (Int32.toInt64 l2)))) + (977 * (Int32.toInt64 l2))) - ((((Int32.toInt64 l1) + 1000000000) * (40503 + (2 * (Int32.toInt64 l2)))) + (977 * (Int32.toInt64 l2))) / 2147483647 * 2147483647) / (Int32.toInt64 (M.2.1 p1 j2)) * (Int32.toInt64 (M.2.1 p1 j2))))), M)))) := (zR_step X _).trans rfl
set_option maxRecDepth 50000 in
theorem zg_M_setsBits_0_e (X : zv_X) (l0 : Nat) (l1 l2 : Int32) (M : zv_M) : zg_M_setsBits_0 X l0 l1 l2 M = zg_M_setsBits_2 X l0 l1 l2 0 M := (zR_step X _).trans rfl
set_option maxRecDepth 50000 in
theorem zg_M_setsBits_2_e (X : zv_X) (l0 : Nat) (l1 l2 l3 : Int32) (M : zv_M) : zg_M_setsBits_2 X l0 l1 l2 l3 M = if 512 ≤ l3 then zg_M_setsBits_22 X l0 l1 l2 M else zv_ob M 12 l0 (zv_rf (M.2.2.2 l0 31) (fun p1 => zv_ix M 3 p1 l3 (fun j2 => zg_M_setsBits_2 X l0 l1 l2 (l3 + 1) (zv_wI M p1 j2 (zv_nar 3 0))))) := (zR_step X _).trans rfl
set_option maxRecDepth 50000 in
theorem zg_M_setsBits_22_e (X : zv_X) (l0 : Nat) (l1 l2 : Int32) (M : zv_M) : zg_M_setsBits_22 X l0 l1 l2 M = zg_M_setsBits_24 X l0 l1 l2 0 M := (zR_step X _).trans rfl
set_option maxRecDepth 50000 in
theorem zg_M_setsBits_24_e (X : zv_X) (l0 : Nat) (l1 l2 l3 : Int32) (M : zv_M) : zg_M_setsBits_24 X l0 l1 l2 l3 M = if l1 ≤ l3 then zg_M_setsBits_186 X M else if l3 ≤ 0 then zg_M_setsBits_62 X l0 l1 l2 l3 M else zv_ob M 12 l0 (zv_rf (M.2.2.2 l0 4) (fun p1 => zv_ix M 0 p1 l3 (fun j2 => zv_ob M 12 l0 (zv_rf (M.2.2.2 l0 4) (fun p3 => zv_ix M 0 p3 (l3 - 1) (fun j4 => zv_ob M 12 l0 (zv_rf (M.2.2.2 l0 0) (fun p5 => zv_ix M 0 p5 7 (fun j6 => if (M.2.1 p5 j6) < ((M.2.1 p1 j2) - (M.2.1 p3 j4)) then zg_M_setsBits_62 X l0 l1 l2 l3 M else zg_M_setsBits_63 X l0 l1 l2 l3 1 M))))))))) := (zR_step X _).trans rfl
set_option maxRecDepth 50000 in
theorem zg_M_setsBits_62_e (X : zv_X) (l0 : Nat) (l1 l2 l3 : Int32) (M : zv_M) : zg_M_setsBits_62 X l0 l1 l2 l3 M = zg_M_setsBits_63 X l0 l1 l2 l3 0 M := (zR_step X _).trans rfl
set_option maxRecDepth 50000 in
theorem zg_M_setsBits_63_e (X : zv_X) (l0 : Nat) (l1 l2 l3 s0 : Int32) (M : zv_M) : zg_M_setsBits_63 X l0 l1 l2 l3 s0 M = if l1 ≤ (l3 + 1) then zg_M_setsBits_101 X l0 l1 l2 l3 s0 M else zv_ob M 12 l0 (zv_rf (M.2.2.2 l0 4) (fun p1 => zv_ix M 0 p1 (l3 + 1) (fun j2 => zv_ob M 12 l0 (zv_rf (M.2.2.2 l0 4) (fun p3 => zv_ix M 0 p3 l3 (fun j4 => zv_ob M 12 l0 (zv_rf (M.2.2.2 l0 0) (fun p5 => zv_ix M 0 p5 7 (fun j6 => if (M.2.1 p5 j6) < ((M.2.1 p1 j2) - (M.2.1 p3 j4)) then zg_M_setsBits_101 X l0 l1 l2 l3 s0 M else zg_M_setsBits_102 X l0 l1 l2 l3 s0 1 M))))))))) := (zR_step X _).trans rfl
set_option maxRecDepth 50000 in
theorem zg_M_setsBits_101_e (X : zv_X) (l0 : Nat) (l1 l2 l3 l4 : Int32) (M : zv_M) : zg_M_setsBits_101 X l0 l1 l2 l3 l4 M = zg_M_setsBits_102 X l0 l1 l2 l3 l4 0 M := (zR_step X _).trans rfl
set_option maxRecDepth 50000 in
theorem zg_M_setsBits_102_e (X : zv_X) (l0 : Nat) (l1 l2 l3 l4 s0 : Int32) (M : zv_M) : zg_M_setsBits_102 X l0 l1 l2 l3 l4 s0 M = zv_ob M 12 l0 (zv_rf (M.2.2.2 l0 32) (fun p1 => if l4 = 0 then if s0 = 0 then zg_M_setsBits_124 X l0 l1 l2 l3 1 l3 p1 M else zg_M_setsBits_123 X l0 l1 l2 l3 l3 p1 M else zg_M_setsBits_123 X l0 l1 l2 l3 l3 p1 M)) := (zR_step X _).trans rfl
set_option maxRecDepth 50000 in
theorem zg_M_setsBits_123_e (X : zv_X) (l0 : Nat) (l1 l2 l3 s0 : Int32) (s1 : Nat) (M : zv_M) : zg_M_setsBits_123 X l0 l1 l2 l3 s0 s1 M = zg_M_setsBits_124 X l0 l1 l2 l3 0 s0 s1 M := (zR_step X _).trans rfl
set_option maxRecDepth 50000 in
theorem zg_M_setsBits_124_e (X : zv_X) (l0 : Nat) (l1 l2 l3 s0 s1 : Int32) (s2 : Nat) (M : zv_M) : zg_M_setsBits_124 X l0 l1 l2 l3 s0 s1 s2 M = zv_ix M 3 s2 s1 (fun j1 => if l2 = 0 then zg_M_setsBits_141 X l0 l1 l2 l3 (zv_wI M s2 j1 (zv_nar 3 s0)) else zv_ob (zv_wI M s2 j1 (zv_nar 3 s0)) 12 l0 (zv_rf ((zv_wI M s2 j1 (zv_nar 3 s0)).2.2.2 l0 32) (fun p2 => zv_ix (zv_wI M s2 j1 (zv_nar 3 s0)) 3 p2 l3 (fun j3 => if ((zv_wI M s2 j1 (zv_nar 3 s0)).2.1 p2 j3) = 0 then zg_M_setsBits_180 X l0 l1 l2 l3 (zv_wI M s2 j1 (zv_nar 3 s0)) else zg_M_setsBits_141 X l0 l1 l2 l3 (zv_wI M s2 j1 (zv_nar 3 s0)))))) := (zR_step X _).trans rfl
set_option maxRecDepth 50000 in
theorem zg_M_setsBits_141_e (X : zv_X) (l0 : Nat) (l1 l2 l3 : Int32) (M : zv_M) : zg_M_setsBits_141 X l0 l1 l2 l3 M = zg_M_setsBits_144 X l0 l1 l2 l3 0 M := (zR_step X _).trans rfl
set_option maxRecDepth 50000 in
theorem zg_M_setsBits_144_e (X : zv_X) (l0 : Nat) (l1 l2 l3 l6 : Int32) (M : zv_M) : zg_M_setsBits_144 X l0 l1 l2 l3 l6 M = zv_ob M 12 l0 (zv_rf (M.2.2.2 l0 0) (fun p1 => zv_ix M 0 p1 6 (fun j2 => if (M.2.1 p1 j2) ≤ l6 then zg_M_setsBits_180 X l0 l1 l2 l3 M else zv_ob M 12 l0 (zv_rf (M.2.2.2 l0 31) (fun p3 => zv_ob M 12 l0 (zv_rf (M.2.2.2 l0 4) (fun p4 => zv_ix M 0 p4 l3 (fun j5 => zv_ob M 12 l0 (zv_ci (zg_M_hash_0 X l0 (M.2.1 p4 j5) l6 M) (fun v7 M6 => zv_ix M6 3 p3 v7 (fun j8 => zg_M_setsBits_144 X l0 l1 l2 l3 (l6 + 1) (zv_wI M6 p3 j8 (zv_nar 3 1))))))))))))) := (zR_step X _).trans rfl
set_option maxRecDepth 50000 in
theorem zg_M_setsBits_180_e (X : zv_X) (l0 : Nat) (l1 l2 l3 : Int32) (M : zv_M) : zg_M_setsBits_180 X l0 l1 l2 l3 M = zg_M_setsBits_24 X l0 l1 l2 (l3 + 1) M := (zR_step X _).trans rfl
set_option maxRecDepth 50000 in
theorem zg_M_setsBits_186_e (X : zv_X) (M : zv_M) : zg_M_setsBits_186 X M = some (none, M) := (zR_step X _).trans rfl
set_option maxRecDepth 50000 in
theorem zg_M_isPassed_0_e (X : zv_X) (l0 : Nat) (l1 l2 l3 : Int32) (M : zv_M) : zg_M_isPassed_0 X l0 l1 l2 l3 M = zv_ci (zg_M_isNumber_0 X l2 M) (fun v2 M1 => if v2 = 0 then zv_rb 0 M1 else zg_M_isPassed_9 X l0 l1 l2 l3 M1) := (zR_step X _).trans rfl
set_option maxRecDepth 50000 in
theorem zg_M_isPassed_9_e (X : zv_X) (l0 : Nat) (l1 l2 l3 : Int32) (M : zv_M) : zg_M_isPassed_9 X l0 l1 l2 l3 M = if l3 = 0 then zg_M_isPassed_110 X l0 l2 M else zg_M_isPassed_16 X l0 l1 l2 0 M := (zR_step X _).trans rfl
set_option maxRecDepth 50000 in
theorem zg_M_isPassed_16_e (X : zv_X) (l0 : Nat) (l1 l2 l4 : Int32) (M : zv_M) : zg_M_isPassed_16 X l0 l1 l2 l4 M = if l1 ≤ l4 then zg_M_isPassed_110 X l0 l2 M else zv_ob M 12 l0 (zv_rf (M.2.2.2 l0 4) (fun p1 => zv_ix M 0 p1 l4 (fun j2 => if (M.2.1 p1 j2) = l2 then zv_ob M 12 l0 (zv_rf (M.2.2.2 l0 32) (fun p3 => zv_ix M 3 p3 l4 (fun j4 => if (M.2.1 p3 j4) = 0 then zg_M_isPassed_102 X M else zg_M_isPassed_43 X l0 l1 l2 l4 M))) else zg_M_isPassed_43 X l0 l1 l2 l4 M))) := (zR_step X _).trans rfl
set_option maxRecDepth 50000 in
theorem zg_M_isPassed_43_e (X : zv_X) (l0 : Nat) (l1 l2 l4 : Int32) (M : zv_M) : zg_M_isPassed_43 X l0 l1 l2 l4 M = if l1 ≤ (l4 + 1) then zg_M_isPassed_104 X l0 l1 l2 l4 M else zv_ob M 12 l0 (zv_rf (M.2.2.2 l0 4) (fun p1 => zv_ix M 0 p1 l4 (fun j2 => if l2 ≤ (M.2.1 p1 j2) then zg_M_isPassed_104 X l0 l1 l2 l4 M else zv_ob M 12 l0 (zv_rf (M.2.2.2 l0 4) (fun p3 => zv_ix M 0 p3 (l4 + 1) (fun j4 => if (M.2.1 p3 j4) ≤ l2 then zg_M_isPassed_104 X l0 l1 l2 l4 M else zv_ob M 12 l0 (zv_rf (M.2.2.2 l0 4) (fun p5 => zv_ix M 0 p5 (l4 + 1) (fun j6 => zv_ob M 12 l0 (zv_rf (M.2.2.2 l0 4) (fun p7 => zv_ix M 0 p7 l4 (fun j8 => zv_ob M 12 l0 (zv_rf (M.2.2.2 l0 0) (fun p9 => zv_ix M 0 p9 7 (fun j10 => if (M.2.1 p9 j10) < ((M.2.1 p5 j6) - (M.2.1 p7 j8)) then zg_M_isPassed_104 X l0 l1 l2 l4 M else zg_M_isPassed_102 X M))))))))))))))) := (zR_step X _).trans rfl
set_option maxRecDepth 50000 in
theorem zg_M_isPassed_102_e (X : zv_X) (M : zv_M) : zg_M_isPassed_102 X M = zv_rb 1 M := (zR_step X _).trans rfl
set_option maxRecDepth 50000 in
theorem zg_M_isPassed_104_e (X : zv_X) (l0 : Nat) (l1 l2 l4 : Int32) (M : zv_M) : zg_M_isPassed_104 X l0 l1 l2 l4 M = zg_M_isPassed_16 X l0 l1 l2 (l4 + 1) M := (zR_step X _).trans rfl
set_option maxRecDepth 50000 in
theorem zg_M_isPassed_110_e (X : zv_X) (l0 : Nat) (l2 : Int32) (M : zv_M) : zg_M_isPassed_110 X l0 l2 M = zg_M_isPassed_113 X l0 l2 0 M := (zR_step X _).trans rfl
set_option maxRecDepth 50000 in
theorem zg_M_isPassed_113_e (X : zv_X) (l0 : Nat) (l2 l4 : Int32) (M : zv_M) : zg_M_isPassed_113 X l0 l2 l4 M = zv_ob M 12 l0 (zv_rf (M.2.2.2 l0 0) (fun p1 => zv_ix M 0 p1 6 (fun j2 => if (M.2.1 p1 j2) ≤ l4 then zg_M_isPassed_148 X M else zv_ob M 12 l0 (zv_rf (M.2.2.2 l0 31) (fun p3 => zv_ob M 12 l0 (zv_ci (zg_M_hash_0 X l0 l2 l4 M) (fun v5 M4 => zv_ix M4 3 p3 v5 (fun j6 => if (M4.2.1 p3 j6) = 0 then zv_rb 0 M4 else zg_M_isPassed_142 X l0 l2 l4 M4)))))))) := (zR_step X _).trans rfl
set_option maxRecDepth 50000 in
theorem zg_M_isPassed_142_e (X : zv_X) (l0 : Nat) (l2 l4 : Int32) (M : zv_M) : zg_M_isPassed_142 X l0 l2 l4 M = zg_M_isPassed_113 X l0 l2 (l4 + 1) M := (zR_step X _).trans rfl
set_option maxRecDepth 50000 in
theorem zg_M_isPassed_148_e (X : zv_X) (M : zv_M) : zg_M_isPassed_148 X M = zv_rb 1 M := (zR_step X _).trans rfl
set_option maxRecDepth 50000 in
theorem zg_M_passes_0_e (X : zv_X) (l0 : Nat) (l1 l2 : Int32) (M : zv_M) : zg_M_passes_0 X l0 l1 l2 M = zv_ob M 12 l0 (zv_ci (zg_M_laysAll_0 X l0 M) (fun v2 M1 => zv_ob M1 12 l0 (zv_cv (zg_M_setsBits_0 X l0 v2 l2 M1) (fun M3 => zv_ob M3 12 l0 (zv_ci (zg_M_isPassed_0 X l0 v2 l1 l2 M3) (fun v5 M4 => zv_rb v5 M4)))))) := (zR_step X _).trans rfl
set_option maxRecDepth 50000 in
theorem zg_M_falses_0_e (X : zv_X) (l0 : Nat) (l1 l2 l3 : Int32) (M : zv_M) : zg_M_falses_0 X l0 l1 l2 l3 M = if l2 < l1 then zg_M_falses_17 X M else if (lg_cmp ((Int32.toInt64 l2) - (Int32.toInt64 l1)) 4999) ≤ 0 then zg_M_falses_19 X l0 l1 l2 l3 M else zg_M_falses_17 X M := (zR_step X _).trans rfl
set_option maxRecDepth 50000 in
theorem zg_M_falses_17_e (X : zv_X) (M : zv_M) : zg_M_falses_17 X M = some (some (.int (-1)), M) := (zR_step X _).trans rfl
set_option maxRecDepth 50000 in
theorem zg_M_falses_19_e (X : zv_X) (l0 : Nat) (l1 l2 l3 : Int32) (M : zv_M) : zg_M_falses_19 X l0 l1 l2 l3 M = zv_ob M 12 l0 (zv_ci (zg_M_laysAll_0 X l0 M) (fun v2 M1 => zv_ob M1 12 l0 (zv_cv (zg_M_setsBits_0 X l0 v2 l3 M1) (fun M3 => zg_M_falses_38 X l0 l1 l2 l3 v2 0 0 M3)))) := (zR_step X _).trans rfl
set_option maxRecDepth 50000 in
theorem zg_M_falses_38_e (X : zv_X) (l0 : Nat) (l1 l2 l3 l4 l5 l6 : Int32) (M : zv_M) : zg_M_falses_38 X l0 l1 l2 l3 l4 l5 l6 M = if (l2 - l1) < l6 then zg_M_falses_87 X l5 M else zv_ob M 12 l0 (zv_ci (zg_M_count_0 X l0 (l1 + l6) M) (fun v2 M1 => if v2 = 0 then zv_ob M1 12 l0 (zv_ci (zg_M_isPassed_0 X l0 l4 (l1 + l6) l3 M1) (fun v4 M3 => if v4 = 0 then zg_M_falses_77 X l0 l1 l2 l3 l4 l6 l5 M3 else zg_M_falses_78 X l0 l1 l2 l3 l4 l6 1 l5 M3)) else zg_M_falses_77 X l0 l1 l2 l3 l4 l6 l5 M1)) := (zR_step X _).trans rfl
set_option maxRecDepth 50000 in
theorem zg_M_falses_77_e (X : zv_X) (l0 : Nat) (l1 l2 l3 l4 l6 s0 : Int32) (M : zv_M) : zg_M_falses_77 X l0 l1 l2 l3 l4 l6 s0 M = zg_M_falses_78 X l0 l1 l2 l3 l4 l6 0 s0 M := (zR_step X _).trans rfl
set_option maxRecDepth 50000 in
theorem zg_M_falses_78_e (X : zv_X) (l0 : Nat) (l1 l2 l3 l4 l6 s0 s1 : Int32) (M : zv_M) : zg_M_falses_78 X l0 l1 l2 l3 l4 l6 s0 s1 M = zg_M_falses_38 X l0 l1 l2 l3 l4 (s1 + s0) (l6 + 1) M := (zR_step X _).trans rfl
set_option maxRecDepth 50000 in
theorem zg_M_falses_87_e (X : zv_X) (l5 : Int32) (M : zv_M) : zg_M_falses_87 X l5 M = some (some (.int l5), M) := (zR_step X _).trans rfl
set_option maxRecDepth 50000 in
theorem zg_M_point_0_e (X : zv_X) (l0 : Nat) (l1 l2 : Int32) (M : zv_M) : zg_M_point_0 X l0 l1 l2 M = zv_ci (zg_M_isIn_0 X l1 0 31 M) (fun v2 M1 => if v2 = 0 then zg_M_point_32 X M1 else zv_ci (zg_M_isIn_0 X l2 0 31 M1) (fun v4 M3 => if v4 = 0 then zg_M_point_32 X M3 else zv_ob M3 12 l0 (zv_rf (M3.2.2.2 l0 0) (fun p5 => zv_ix M3 0 p5 13 (fun j6 => if (M3.2.1 p5 j6) = 100 then zg_M_point_32 X M3 else zg_M_point_34 X l0 l1 l2 M3))))) := (zR_step X _).trans rfl
set_option maxRecDepth 50000 in
theorem zg_M_point_32_e (X : zv_X) (M : zv_M) : zg_M_point_32 X M = some (some (.int (-1)), M) := (zR_step X _).trans rfl
set_option maxRecDepth 50000 in
theorem zg_M_point_34_e (X : zv_X) (l0 : Nat) (l1 l2 : Int32) (M : zv_M) : zg_M_point_34 X l0 l1 l2 M = zv_ob M 12 l0 (zv_rf (M.2.2.2 l0 0) (fun p1 => zv_ob M 12 l0 (zv_rf (M.2.2.2 l0 0) (fun p2 => zv_ix M 0 p2 13 (fun j3 => zv_ix M 0 p1 (1300 + (2 * (M.2.1 p2 j3))) (fun j4 => zv_ob (zv_wI M p1 j4 l1) 12 l0 (zv_rf ((zv_wI M p1 j4 l1).2.2.2 l0 0) (fun p5 => zv_ob (zv_wI M p1 j4 l1) 12 l0 (zv_rf ((zv_wI M p1 j4 l1).2.2.2 l0 0) (fun p6 => zv_ix (zv_wI M p1 j4 l1) 0 p6 13 (fun j7 => zv_ix (zv_wI M p1 j4 l1) 0 p5 ((1300 + (2 * ((zv_wI M p1 j4 l1).2.1 p6 j7))) + 1) (fun j8 => zv_ob (zv_wI (zv_wI M p1 j4 l1) p5 j8 l2) 12 l0 (zv_rf ((zv_wI (zv_wI M p1 j4 l1) p5 j8 l2).2.2.2 l0 0) (fun p9 => zv_ix (zv_wI (zv_wI M p1 j4 l1) p5 j8 l2) 0 p9 13 (fun j10 => zv_ix (zv_wI (zv_wI M p1 j4 l1) p5 j8 l2) 0 p9 13 (fun j11 => zv_ob (zv_wI (zv_wI (zv_wI M p1 j4 l1) p5 j8 l2) p9 j11 (((zv_wI (zv_wI M p1 j4 l1) p5 j8 l2).2.1 p9 j10) + 1)) 12 l0 (zv_rf ((zv_wI (zv_wI (zv_wI M p1 j4 l1) p5 j8 l2) p9 j11 (((zv_wI (zv_wI M p1 j4 l1) p5 j8 l2).2.1 p9 j10) + 1)).2.2.2 l0 0) (fun p12 => zv_ix (zv_wI (zv_wI (zv_wI M p1 j4 l1) p5 j8 l2) p9 j11 (((zv_wI (zv_wI M p1 j4 l1) p5 j8 l2).2.1 p9 j10) + 1)) 0 p12 13 (fun j13 => some (some (.int (((zv_wI (zv_wI (zv_wI M p1 j4 l1) p5 j8 l2) p9 j11 (((zv_wI (zv_wI M p1 j4 l1) p5 j8 l2).2.1 p9 j10) + 1)).2.1 p12 j13) - 1)), zv_wI (zv_wI (zv_wI M p1 j4 l1) p5 j8 l2) p9 j11 (((zv_wI (zv_wI M p1 j4 l1) p5 j8 l2).2.1 p9 j10) + 1))))))))))))))))))))) := (zR_step X _).trans rfl
set_option maxRecDepth 50000 in
theorem zg_M_box_0_e (X : zv_X) (l0 : Nat) (l1 l2 l3 l4 : Int32) (M : zv_M) : zg_M_box_0 X l0 l1 l2 l3 l4 M = zv_ci (zg_M_isIn_0 X l1 0 l3 M) (fun v2 M1 => if v2 = 0 then zg_M_box_44 X M1 else zv_ci (zg_M_isIn_0 X l2 0 l4 M1) (fun v4 M3 => if v4 = 0 then zg_M_box_44 X M3 else if 31 < l3 then zg_M_box_44 X M3 else if 31 < l4 then zg_M_box_44 X M3 else zv_ob M3 12 l0 (zv_rf (M3.2.2.2 l0 0) (fun p5 => zv_ix M3 0 p5 14 (fun j6 => if (M3.2.1 p5 j6) = 8 then zg_M_box_44 X M3 else zg_M_box_46 X l0 l1 l2 l3 l4 M3))))) := (zR_step X _).trans rfl
set_option maxRecDepth 50000 in
theorem zg_M_box_44_e (X : zv_X) (M : zv_M) : zg_M_box_44 X M = some (some (.int (-1)), M) := (zR_step X _).trans rfl
set_option maxRecDepth 50000 in
theorem zg_M_box_46_e (X : zv_X) (l0 : Nat) (l1 l2 l3 l4 : Int32) (M : zv_M) : zg_M_box_46 X l0 l1 l2 l3 l4 M = zv_ob M 12 l0 (zv_rf (M.2.2.2 l0 0) (fun p1 => zv_ix M 0 p1 14 (fun j2 => zv_ob M 12 l0 (zv_rf (M.2.2.2 l0 0) (fun p3 => zv_ix M 0 p3 (1500 + (4 * (M.2.1 p1 j2))) (fun j4 => zv_ob (zv_wI M p3 j4 l1) 12 l0 (zv_rf ((zv_wI M p3 j4 l1).2.2.2 l0 0) (fun p5 => zv_ix (zv_wI M p3 j4 l1) 0 p5 ((1500 + (4 * (M.2.1 p1 j2))) + 1) (fun j6 => zv_ob (zv_wI (zv_wI M p3 j4 l1) p5 j6 l2) 12 l0 (zv_rf ((zv_wI (zv_wI M p3 j4 l1) p5 j6 l2).2.2.2 l0 0) (fun p7 => zv_ix (zv_wI (zv_wI M p3 j4 l1) p5 j6 l2) 0 p7 ((1500 + (4 * (M.2.1 p1 j2))) + 2) (fun j8 => zv_ob (zv_wI (zv_wI (zv_wI M p3 j4 l1) p5 j6 l2) p7 j8 l3) 12 l0 (zv_rf ((zv_wI (zv_wI (zv_wI M p3 j4 l1) p5 j6 l2) p7 j8 l3).2.2.2 l0 0) (fun p9 => zv_ix (zv_wI (zv_wI (zv_wI M p3 j4 l1) p5 j6 l2) p7 j8 l3) 0 p9 ((1500 + (4 * (M.2.1 p1 j2))) + 3) (fun j10 => zv_ob (zv_wI (zv_wI (zv_wI (zv_wI M p3 j4 l1) p5 j6 l2) p7 j8 l3) p9 j10 l4) 12 l0 (zv_rf ((zv_wI (zv_wI (zv_wI (zv_wI M p3 j4 l1) p5 j6 l2) p7 j8 l3) p9 j10 l4).2.2.2 l0 0) (fun p11 => zv_ix (zv_wI (zv_wI (zv_wI (zv_wI M p3 j4 l1) p5 j6 l2) p7 j8 l3) p9 j10 l4) 0 p11 14 (fun j12 => zv_ix (zv_wI (zv_wI (zv_wI (zv_wI M p3 j4 l1) p5 j6 l2) p7 j8 l3) p9 j10 l4) 0 p11 14 (fun j13 => zv_ob (zv_wI (zv_wI (zv_wI (zv_wI (zv_wI M p3 j4 l1) p5 j6 l2) p7 j8 l3) p9 j10 l4) p11 j13 (((zv_wI (zv_wI (zv_wI (zv_wI M p3 j4 l1) p5 j6 l2) p7 j8 l3) p9 j10 l4).2.1 p11 j12) + 1)) 12 l0 (zv_rf ((zv_wI (zv_wI (zv_wI (zv_wI (zv_wI M p3 j4 l1) p5 j6 l2) p7 j8 l3) p9 j10 l4) p11 j13 (((zv_wI (zv_wI (zv_wI (zv_wI M p3 j4 l1) p5 j6 l2) p7 j8 l3) p9 j10 l4).2.1 p11 j12) + 1)).2.2.2 l0 0) (fun p14 => zv_ix (zv_wI (zv_wI (zv_wI (zv_wI (zv_wI M p3 j4 l1) p5 j6 l2) p7 j8 l3) p9 j10 l4) p11 j13 (((zv_wI (zv_wI (zv_wI (zv_wI M p3 j4 l1) p5 j6 l2) p7 j8 l3) p9 j10 l4).2.1 p11 j12) + 1)) 0 p14 14 (fun j15 => some (some (.int (((zv_wI (zv_wI (zv_wI (zv_wI (zv_wI M p3 j4 l1) p5 j6 l2) p7 j8 l3) p9 j10 l4) p11 j13 (((zv_wI (zv_wI (zv_wI (zv_wI M p3 j4 l1) p5 j6 l2) p7 j8 l3) p9 j10 l4).2.1 p11 j12) + 1)).2.1 p14 j15) - 1)), zv_wI (zv_wI (zv_wI (zv_wI (zv_wI M p3 j4 l1) p5 j6 l2) p7 j8 l3) p9 j10 l4) p11 j13 (((zv_wI (zv_wI (zv_wI (zv_wI M p3 j4 l1) p5 j6 l2) p7 j8 l3) p9 j10 l4).2.1 p11 j12) + 1)))))))))))))))))))))))) := (zR_step X _).trans rfl
set_option maxRecDepth 50000 in
theorem zg_M_numberBy_0_e (X : zv_X) (l0 l1 l2 : Int32) (M : zv_M) : zg_M_numberBy_0 X l0 l1 l2 M = if l0 = 0 then some (some (.int ((32 * l2) + l1)), M) else zg_M_numberBy_11 X l0 l1 l2 M := (zR_step X _).trans rfl
set_option maxRecDepth 50000 in
theorem zg_M_numberBy_11_e (X : zv_X) (l0 l1 l2 : Int32) (M : zv_M) : zg_M_numberBy_11 X l0 l1 l2 M = if l0 = 2 then if (2 : Int32) = 0 then none else if (l2 - l2 / 2 * 2) = 1 then zg_M_numberBy_35 X (31 - l1) (32 * l2) M else zg_M_numberBy_34 X l1 (32 * l2) M else zg_M_numberBy_37 X l1 l2 M := (zR_step X _).trans rfl
set_option maxRecDepth 50000 in
theorem zg_M_numberBy_34_e (X : zv_X) (l1 s0 : Int32) (M : zv_M) : zg_M_numberBy_34 X l1 s0 M = zg_M_numberBy_35 X l1 s0 M := (zR_step X _).trans rfl
set_option maxRecDepth 50000 in
theorem zg_M_numberBy_35_e (X : zv_X) (s0 s1 : Int32) (M : zv_M) : zg_M_numberBy_35 X s0 s1 M = some (some (.int (s1 + s0)), M) := (zR_step X _).trans rfl
set_option maxRecDepth 50000 in
theorem zg_M_numberBy_37_e (X : zv_X) (l1 l2 : Int32) (M : zv_M) : zg_M_numberBy_37 X l1 l2 M = zg_M_numberBy_42 X l1 l2 0 0 M := (zR_step X _).trans rfl
set_option maxRecDepth 50000 in
theorem zg_M_numberBy_42_e (X : zv_X) (l1 l2 l3 l4 : Int32) (M : zv_M) : zg_M_numberBy_42 X l1 l2 l3 l4 M = if 5 ≤ l4 then zg_M_numberBy_82 X l3 M else zg_M_numberBy_42 X l1 l2 (l3 ||| ((((l1 >>> (l4 &&& 31)) &&& 1) <<< ((2 * l4) &&& 31)) ||| (((l2 >>> (l4 &&& 31)) &&& 1) <<< (((2 * l4) + 1) &&& 31)))) (l4 + 1) M := (zR_step X _).trans rfl
set_option maxRecDepth 50000 in
theorem zg_M_numberBy_82_e (X : zv_X) (l3 : Int32) (M : zv_M) : zg_M_numberBy_82 X l3 M = some (some (.int l3), M) := (zR_step X _).trans rfl
set_option maxRecDepth 50000 in
theorem zg_M_read_0_e (X : zv_X) (l0 : Nat) (l1 l2 : Int32) (M : zv_M) : zg_M_read_0 X l0 l1 l2 M = zv_ob M 12 l0 (zv_rf (M.2.2.2 l0 0) (fun p1 => zv_ix M 0 p1 (1500 + (4 * l1)) (fun j2 => zg_M_read_24 X l0 l2 (1500 + (4 * l1)) 2000 (-1) (M.2.1 p1 j2) M))) := (zR_step X _).trans rfl
set_option maxRecDepth 50000 in
theorem zg_M_read_24_e (X : zv_X) (l0 : Nat) (l2 l3 l4 l5 l6 : Int32) (M : zv_M) : zg_M_read_24 X l0 l2 l3 l4 l5 l6 M = zv_ob M 12 l0 (zv_rf (M.2.2.2 l0 0) (fun p1 => zv_ix M 0 p1 (l3 + 2) (fun j2 => if (M.2.1 p1 j2) < l6 then zg_M_read_114 X l0 l2 l4 l5 M else zv_ob M 12 l0 (zv_rf (M.2.2.2 l0 0) (fun p3 => zv_ix M 0 p3 (l3 + 1) (fun j4 => zg_M_read_47 X l0 l2 l3 l4 l5 l6 (M.2.1 p3 j4) M)))))) := (zR_step X _).trans rfl
set_option maxRecDepth 50000 in
theorem zg_M_read_47_e (X : zv_X) (l0 : Nat) (l2 l3 l4 l5 l6 l7 : Int32) (M : zv_M) : zg_M_read_47 X l0 l2 l3 l4 l5 l6 l7 M = zv_ob M 12 l0 (zv_rf (M.2.2.2 l0 0) (fun p1 => zv_ix M 0 p1 (l3 + 3) (fun j2 => if (M.2.1 p1 j2) < l7 then zg_M_read_108 X l0 l2 l3 l4 l5 l6 M else zv_ci (zg_M_numberBy_0 X l2 l6 l7 M) (fun v4 M3 => if l4 ≤ v4 then zg_M_read_82 X l0 l2 l3 l4 l5 l6 l7 v4 M3 else zg_M_read_84 X l0 l2 l3 l5 l6 l7 v4 v4 M3)))) := (zR_step X _).trans rfl
set_option maxRecDepth 50000 in
theorem zg_M_read_82_e (X : zv_X) (l0 : Nat) (l2 l3 l4 l5 l6 l7 l8 : Int32) (M : zv_M) : zg_M_read_82 X l0 l2 l3 l4 l5 l6 l7 l8 M = zg_M_read_84 X l0 l2 l3 l5 l6 l7 l8 l4 M := (zR_step X _).trans rfl
set_option maxRecDepth 50000 in
theorem zg_M_read_84_e (X : zv_X) (l0 : Nat) (l2 l3 l5 l6 l7 l8 s0 : Int32) (M : zv_M) : zg_M_read_84 X l0 l2 l3 l5 l6 l7 l8 s0 M = if l8 ≤ l5 then zg_M_read_98 X l0 l2 l3 s0 l5 l6 l7 M else zg_M_read_100 X l0 l2 l3 s0 l6 l7 l8 M := (zR_step X _).trans rfl
set_option maxRecDepth 50000 in
theorem zg_M_read_98_e (X : zv_X) (l0 : Nat) (l2 l3 l4 l5 l6 l7 : Int32) (M : zv_M) : zg_M_read_98 X l0 l2 l3 l4 l5 l6 l7 M = zg_M_read_100 X l0 l2 l3 l4 l6 l7 l5 M := (zR_step X _).trans rfl
set_option maxRecDepth 50000 in
theorem zg_M_read_100_e (X : zv_X) (l0 : Nat) (l2 l3 l4 l6 l7 s0 : Int32) (M : zv_M) : zg_M_read_100 X l0 l2 l3 l4 l6 l7 s0 M = zg_M_read_47 X l0 l2 l3 l4 s0 l6 (l7 + 1) M := (zR_step X _).trans rfl
set_option maxRecDepth 50000 in
theorem zg_M_read_108_e (X : zv_X) (l0 : Nat) (l2 l3 l4 l5 l6 : Int32) (M : zv_M) : zg_M_read_108 X l0 l2 l3 l4 l5 l6 M = zg_M_read_24 X l0 l2 l3 l4 l5 (l6 + 1) M := (zR_step X _).trans rfl
set_option maxRecDepth 50000 in
theorem zg_M_read_114_e (X : zv_X) (l0 : Nat) (l2 l4 l5 : Int32) (M : zv_M) : zg_M_read_114 X l0 l2 l4 l5 M = zg_M_read_120 X l0 l2 l4 l5 0 0 M := (zR_step X _).trans rfl
set_option maxRecDepth 50000 in
theorem zg_M_read_120_e (X : zv_X) (l0 : Nat) (l2 l4 l5 l6 l7 : Int32) (M : zv_M) : zg_M_read_120 X l0 l2 l4 l5 l6 l7 M = zv_ob M 12 l0 (zv_rf (M.2.2.2 l0 0) (fun p1 => zv_ix M 0 p1 13 (fun j2 => if (M.2.1 p1 j2) ≤ l7 then zg_M_read_190 X l6 M else zv_ob M 12 l0 (zv_rf (M.2.2.2 l0 0) (fun p3 => zv_ix M 0 p3 (1300 + (2 * l7)) (fun j4 => zv_ob M 12 l0 (zv_rf (M.2.2.2 l0 0) (fun p5 => zv_ix M 0 p5 ((1300 + (2 * l7)) + 1) (fun j6 => zv_ci (zg_M_numberBy_0 X l2 (M.2.1 p3 j4) (M.2.1 p5 j6) M) (fun v8 M7 => zv_ci (zg_M_isIn_0 X v8 l4 l5 M7) (fun v10 M9 => if v10 = 0 then zg_M_read_180 X l0 l2 l4 l5 l7 l6 M9 else zg_M_read_181 X l0 l2 l4 l5 l7 1 l6 M9))))))))))) := (zR_step X _).trans rfl
set_option maxRecDepth 50000 in
theorem zg_M_read_180_e (X : zv_X) (l0 : Nat) (l2 l4 l5 l7 s0 : Int32) (M : zv_M) : zg_M_read_180 X l0 l2 l4 l5 l7 s0 M = zg_M_read_181 X l0 l2 l4 l5 l7 0 s0 M := (zR_step X _).trans rfl
set_option maxRecDepth 50000 in
theorem zg_M_read_181_e (X : zv_X) (l0 : Nat) (l2 l4 l5 l7 s0 s1 : Int32) (M : zv_M) : zg_M_read_181 X l0 l2 l4 l5 l7 s0 s1 M = zg_M_read_120 X l0 l2 l4 l5 (s1 + s0) (l7 + 1) M := (zR_step X _).trans rfl
set_option maxRecDepth 50000 in
theorem zg_M_read_190_e (X : zv_X) (l6 : Int32) (M : zv_M) : zg_M_read_190 X l6 M = some (some (.int l6), M) := (zR_step X _).trans rfl
set_option maxRecDepth 50000 in
theorem zg_M_boxed_0_e (X : zv_X) (l0 : Nat) (l1 l2 : Int32) (M : zv_M) : zg_M_boxed_0 X l0 l1 l2 M = zv_ob M 12 l0 (zv_rf (M.2.2.2 l0 0) (fun p1 => zv_ix M 0 p1 14 (fun j2 => zv_ci (zg_M_isIn_0 X l1 0 ((M.2.1 p1 j2) - 1) M) (fun v4 M3 => if v4 = 0 then zg_M_boxed_26 X M3 else zv_ci (zg_M_isIn_0 X l2 0 3 M3) (fun v6 M5 => if v6 = 0 then zg_M_boxed_26 X M5 else zg_M_boxed_28 X l0 l1 l2 M5))))) := (zR_step X _).trans rfl
set_option maxRecDepth 50000 in
theorem zg_M_boxed_26_e (X : zv_X) (M : zv_M) : zg_M_boxed_26 X M = some (some (.int (-1)), M) := (zR_step X _).trans rfl
set_option maxRecDepth 50000 in
theorem zg_M_boxed_28_e (X : zv_X) (l0 : Nat) (l1 l2 : Int32) (M : zv_M) : zg_M_boxed_28 X l0 l1 l2 M = if l2 ≤ 0 then zg_M_boxed_41 X l0 l1 M else zv_ob M 12 l0 (zv_ci (zg_M_read_0 X l0 l1 (l2 - 1) M) (fun v2 M1 => some (some (.int v2), M1))) := (zR_step X _).trans rfl
set_option maxRecDepth 50000 in
theorem zg_M_boxed_41_e (X : zv_X) (l0 : Nat) (l1 : Int32) (M : zv_M) : zg_M_boxed_41 X l0 l1 M = zg_M_boxed_55 X l0 (1500 + (4 * l1)) 0 0 M := (zR_step X _).trans rfl
set_option maxRecDepth 50000 in
theorem zg_M_boxed_55_e (X : zv_X) (l0 : Nat) (l3 l4 l5 : Int32) (M : zv_M) : zg_M_boxed_55 X l0 l3 l4 l5 M = zv_ob M 12 l0 (zv_rf (M.2.2.2 l0 0) (fun p1 => zv_ix M 0 p1 13 (fun j2 => if (M.2.1 p1 j2) ≤ l5 then zg_M_boxed_153 X l4 M else zv_ob M 12 l0 (zv_rf (M.2.2.2 l0 0) (fun p3 => zv_ix M 0 p3 (1300 + (2 * l5)) (fun j4 => zv_ob M 12 l0 (zv_rf (M.2.2.2 l0 0) (fun p5 => zv_ix M 0 p5 l3 (fun j6 => zv_ob M 12 l0 (zv_rf (M.2.2.2 l0 0) (fun p7 => zv_ix M 0 p7 (l3 + 2) (fun j8 => zv_ci (zg_M_isIn_0 X (M.2.1 p3 j4) (M.2.1 p5 j6) (M.2.1 p7 j8) M) (fun v10 M9 => if v10 = 0 then zg_M_boxed_143 X l0 l3 l5 l4 M9 else zv_ob M9 12 l0 (zv_rf (M9.2.2.2 l0 0) (fun p11 => zv_ix M9 0 p11 ((1300 + (2 * l5)) + 1) (fun j12 => zv_ob M9 12 l0 (zv_rf (M9.2.2.2 l0 0) (fun p13 => zv_ix M9 0 p13 (l3 + 1) (fun j14 => zv_ob M9 12 l0 (zv_rf (M9.2.2.2 l0 0) (fun p15 => zv_ix M9 0 p15 (l3 + 3) (fun j16 => zv_ci (zg_M_isIn_0 X (M9.2.1 p11 j12) (M9.2.1 p13 j14) (M9.2.1 p15 j16) M9) (fun v18 M17 => if v18 = 0 then zg_M_boxed_143 X l0 l3 l5 l4 M17 else zg_M_boxed_144 X l0 l3 l5 1 l4 M17))))))))))))))))))))))) := (zR_step X _).trans rfl
set_option maxRecDepth 50000 in
theorem zg_M_boxed_143_e (X : zv_X) (l0 : Nat) (l3 l5 s0 : Int32) (M : zv_M) : zg_M_boxed_143 X l0 l3 l5 s0 M = zg_M_boxed_144 X l0 l3 l5 0 s0 M := (zR_step X _).trans rfl
set_option maxRecDepth 50000 in
theorem zg_M_boxed_144_e (X : zv_X) (l0 : Nat) (l3 l5 s0 s1 : Int32) (M : zv_M) : zg_M_boxed_144 X l0 l3 l5 s0 s1 M = zg_M_boxed_55 X l0 l3 (s1 + s0) (l5 + 1) M := (zR_step X _).trans rfl
set_option maxRecDepth 50000 in
theorem zg_M_boxed_153_e (X : zv_X) (l4 : Int32) (M : zv_M) : zg_M_boxed_153 X l4 M = some (some (.int l4), M) := (zR_step X _).trans rfl
set_option maxRecDepth 50000 in
theorem zg_M_bestOrder_0_e (X : zv_X) (l0 : Nat) (M : zv_M) : zg_M_bestOrder_0 X l0 M = zg_M_bestOrder_6 X l0 0 (-1) 0 M := (zR_step X _).trans rfl
set_option maxRecDepth 50000 in
theorem zg_M_bestOrder_6_e (X : zv_X) (l0 : Nat) (l1 l2 l3 : Int32) (M : zv_M) : zg_M_bestOrder_6 X l0 l1 l2 l3 M = if 3 ≤ l3 then zg_M_bestOrder_72 X l1 M else zg_M_bestOrder_17 X l0 l1 l2 l3 0 0 M := (zR_step X _).trans rfl
set_option maxRecDepth 50000 in
theorem zg_M_bestOrder_17_e (X : zv_X) (l0 : Nat) (l1 l2 l3 l4 l5 : Int32) (M : zv_M) : zg_M_bestOrder_17 X l0 l1 l2 l3 l4 l5 M = zv_ob M 12 l0 (zv_rf (M.2.2.2 l0 0) (fun p1 => zv_ix M 0 p1 14 (fun j2 => if (M.2.1 p1 j2) ≤ l5 then zg_M_bestOrder_47 X l0 l1 l2 l3 l4 M else zv_ob M 12 l0 (zv_ci (zg_M_read_0 X l0 l5 l3 M) (fun v4 M3 => zg_M_bestOrder_17 X l0 l1 l2 l3 (l4 + v4) (l5 + 1) M3))))) := (zR_step X _).trans rfl
set_option maxRecDepth 50000 in
theorem zg_M_bestOrder_47_e (X : zv_X) (l0 : Nat) (l1 l2 l3 l4 : Int32) (M : zv_M) : zg_M_bestOrder_47 X l0 l1 l2 l3 l4 M = if l2 = (-1) then zg_M_bestOrder_61 X l0 l3 l4 M else if l4 < l2 then zg_M_bestOrder_61 X l0 l3 l4 M else zg_M_bestOrder_66 X l0 l1 l2 l3 M := (zR_step X _).trans rfl
