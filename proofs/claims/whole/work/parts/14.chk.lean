/-! THE CHECK of one instruction, and what it gives -/
def zlen : Instr → Nat
  | .iload _ | .lload _ | .aload _ | .istore _ | .lstore _ | .astore _ | .bipush _ | .ldc _ | .newarray _ => 2
  | .sipush _ | .iinc _ _ | .getfield _ | .putfield _ | .getstatic _ | .invokestatic _ | .invokevirtual _ | .invokespecial _ | .new _ | .anewarray _ | .checkcast _ | .ldc_w _ | .ldc2_w _ | .goto _ | .ifCond _ _ | .if_icmp _ _ | .ifnull _ => 3
  | .multianewarray _ _ => 4
  | _ => 1
def zdec (m : Nat) (q : zv_I) (n : Nat) : Bool := decide (decode (zv_mb m) q.1 = .ok (q.2.1, n))
def zjl (pc : Nat) (off : Int) (d : List Nat) : Bool := match d with
  | [l] => decide ((pc : Int) + off = (l : Int))
  | _ => false
def zow (m : Nat) : Nat := (zv_mi m).2.2.1
def zfc (m i : Nat) (d : List Nat) : Bool := match d with
  | [b, j, t] => if t < 4 then decide (b < 13) && decide (j < (zv_fs b).length) && decide ((zv_fs b).getD j 9 = t) && zt_f.any (fun q => q.1 == zow m && q.2.1 == i && q.2.2.1 == b && q.2.2.2.1 == j)
    else zt_s.any (fun q => q.1 == zow m && q.2.1 == i && q.2.2.1 == t)
  | _ => true
def zpc (m : Nat) (d : List Nat) : Bool := match d with
  | [b, j, _] => (match vwCl[b]? with
    | some r => !(r.2.1 j).2.2.2 || (decide ((zv_mi m).2.2.2.2.2.1 = 2) && decide (r.1 = zv_cn (zow m)))
    | none => false)
  | _ => true
def zcc (m i : Nat) (d : List Nat) : Bool := match d with
  | [0, v] => zt_c.any (fun q => q.1 == zow m && q.2.1 == i && q.2.2.1 == v)
  | [1, k] => zv_sr.any (fun q => q.1 == zow m && q.2.1 == i && q.2.2.2 == k)
  | _ => true
def zgc (m i : Nat) (d : List Nat) : Bool := match d with
  | [0, k] => (k == 1 || k == 2 || k == 3 || k == 90) && zt_g.any (fun q => q.1 == zow m && q.2.1 == i && q.2.2.1 == k)
  | [1, v] => v == 1 && zt_g.any (fun q => q.1 == zow m && q.2.1 == i && q.2.2.1 == 91)
  | _ => true
def znc (m i b : Nat) : Bool := zt_n.any (fun q => q.1 == zow m && q.2.1 == i && q.2.2.1 == b)
def zmc (m i : Nat) (d : List Nat) : Bool := match d with
  | [b, _, _] => decide (b < 209) && (zt_m.any (fun q => q.1 == zow m && q.2.1 == i && q.2.2.1 == b) || zt_mN.any (fun q => q.1 == zow m && q.2.1 == i && q.2.2 == b)) || b == 998
  | _ => false
def zt_q : List (Nat × Nat × Nat × Nat) := [(12, 32, 5, 1002), (12, 43, 6, 1004)]
theorem zt_q_ok : zt_q.all (fun q => zat_w q.2.2.2 (.classLink (zv_cn q.1) q.2.1 (if q.2.2.1 = 5 then "[[I" else "[[J"))) = true := by decide +kernel
def zchk (m : Nat) (q : zv_I) : Bool := match q.2.1 with
  | .nop => decide (q.2.2 = [q.1])
  | .goto off => zdec m q 3 && zjl q.1 off q.2.2
  | .ifCond _ off => zdec m q 3 && zjl q.1 off q.2.2
  | .if_icmp _ off => zdec m q 3 && zjl q.1 off q.2.2
  | .tableswitch df lo _ offs => (match q.2.2 with
    | n :: l0 :: tg => zdec m q n && decide ((q.1 : Int) + df = (l0 : Int)) && decide (tg.map (fun (l : Nat) => (l : Int)) = offs.toList.map (fun o => (q.1 : Int) + o))
    | _ => false)
  | .getfield i => zdec m q 3 && zfc m i q.2.2
  | .putfield i => zdec m q 3 && (zfc m i q.2.2 && zpc m q.2.2)
  | .ldc i => zdec m q 2 && zcc m i q.2.2
  | .ldc_w i => zdec m q 3 && (zcc m i q.2.2 && (match q.2.2 with
    | [1, _] => false
    | _ => true))
  | .ldc2_w i => zdec m q 3 && (match q.2.2 with
    | [v] => zt_l.any (fun q => q.1 == zow m && q.2.1 == i && q.2.2.1 == v)
    | _ => true)
  | .getstatic i => zdec m q 3 && zgc m i q.2.2
  | .new i => zdec m q 3 && (match q.2.2 with
    | [b] => znc m i b || decide (13 ≤ b)
    | _ => true)
  | .newarray y => zdec m q 2 && (match q.2.2 with
    | [t] => decide (t < 4) && decide (newarray.typeOf y = zat t)
    | _ => true)
  | .anewarray i => zdec m q 3 && znc m i 5
  | .checkcast i => zdec m q 3 && zt_k.any (fun q => q.1 == zow m && q.2.1 == i)
  | .multianewarray i dm => zdec m q 4 && (decide (dm = 2) && (match q.2.2 with
    | [ot, _] => zt_q.any (fun q => q.1 == zow m && q.2.1 == i && q.2.2.1 == ot)
    | _ => true))
  | .invokestatic i => zdec m q 3 && (match q.2.2 with
    | [1000] => zt_a.any (fun q => q.1 == zow m && q.2.1 == i) && decide (1 ≤ (zv_mi m).2.2.2.1) && decide (26 ≤ (zv_mi m).2.2.2.2.1)
    | d => zmc m i d)
  | .invokevirtual i => zdec m q 3 && (match q.2.2 with
    | [1001] => decide ((zow m = 9 ∧ 1 ≤ (zv_mi m).2.2.2.1 ∧ 22 ≤ (zv_mi m).2.2.2.2.1) ∧ i = 25)
    | d => zmc m i d)
  | .invokespecial i => zdec m q 3 && (match q.2.2 with
    | [1002] => zt_o.any (fun q => q.1 == zow m && q.2.1 == i) && decide (1 ≤ (zv_mi m).2.2.2.1) && decide (20 ≤ (zv_mi m).2.2.2.2.1)
    | d => zmc m i d)
  | i => zdec m q (zlen i)
def zchkl (m : Nat) : List zv_I → Bool
  | [] => true
  | q :: r => zchk m q && (match r with
    | [] => true
    | q' :: _ => decide (q'.1 = q.1 + zlen q.2.1)) && zchkl m r
/-- a block: it begins at its label -/
def zchkb (m : Nat) (b : Nat × List Bool × List zv_I) : Bool := zchkl m b.2.2 && (match b.2.2 with
  | [] => true
  | q :: _ => decide (q.1 = b.1))
theorem zand {a b : Bool} (h : (a && b) = true) : a = true ∧ b = true := by simpa using h
theorem zdec_ok {m pc n : Nat} {i : Instr} {d : List Nat} (h : zdec m (pc, i, d) n = true) : decode (zv_mb m) pc = .ok (i, n) := of_decide_eq_true h
theorem zfc_ok {m i : Nat} {d : List Nat} (h : zfc m i d = true) : ∀ b j t, d = [b, j, t] → zlf m i b j t := by
  rintro b j t rfl
  unfold zfc at h
  dsimp only at h
  refine ⟨fun ht => ?_, fun ht => ?_, fun ht => ?_⟩
  · rw [if_pos ht] at h
    simp only [Bool.and_eq_true, decide_eq_true_eq] at h
    obtain ⟨⟨⟨h1, h2⟩, h3⟩, h4⟩ := h
    refine ⟨h1, h2, h3, fun C T ty K => ?_⟩
    obtain ⟨q, hq, e⟩ := List.any_eq_true.mp h4
    simp only [Bool.and_eq_true, beq_iff_eq] at e
    obtain ⟨⟨⟨e1, e2⟩, e3⟩, e4⟩ := e
    have h5 := List.all_eq_true.mp zt_f_ok q hq
    rw [e1, e2, e3, e4] at h5
    have e6 : zfw (zow m) i b j = .fieldLink (zv_cn (zow m)) i C (T j).2.1 (T j).2.2.1 := by
      unfold zfw
      rw [K.1]
    rw [e6] at h5
    exact zat_in h5 rfl
  · subst ht
    rw [if_neg (by decide)] at h
    obtain ⟨q, hq, e⟩ := List.any_eq_true.mp h
    simp only [Bool.and_eq_true, beq_iff_eq] at e
    obtain ⟨⟨e1, e2⟩, e3⟩ := e
    have h5 := List.all_eq_true.mp zt_s_ok q hq
    rw [e1, e2, e3] at h5
    exact zat_in h5 rfl
  · subst ht
    rw [if_neg (by decide)] at h
    obtain ⟨q, hq, e⟩ := List.any_eq_true.mp h
    simp only [Bool.and_eq_true, beq_iff_eq] at e
    obtain ⟨⟨e1, e2⟩, e3⟩ := e
    have h5 := List.all_eq_true.mp zt_s_ok q hq
    rw [e1, e2, e3] at h5
    exact zat_in h5 rfl
theorem zpc_ok {m : Nat} {d : List Nat} (h : zpc m d = true) : ∀ b j t, d = [b, j, t] → zlp m b j := by
  rintro b j t rfl C T ty K
  unfold zpc at h
  dsimp only at h
  rw [K.1] at h
  dsimp only at h
  cases hf : (T j).2.2.2 with
  | false => exact Or.inl rfl
  | true =>
    rw [hf] at h
    simp only [Bool.not_true, Bool.false_or, Bool.and_eq_true, decide_eq_true_eq] at h
    exact Or.inr ⟨rfl, h.1, h.2⟩
theorem zcc_ok {m i : Nat} {d : List Nat} (h : zcc m i d = true) : zlc m i d := by
  refine ⟨?_, ?_⟩
  · rintro v rfl
    unfold zcc at h
    try dsimp only at h
    obtain ⟨q, hq, e⟩ := List.any_eq_true.mp h
    simp only [Bool.and_eq_true, beq_iff_eq] at e
    obtain ⟨⟨e1, e2⟩, e3⟩ := e
    have h5 := List.all_eq_true.mp zt_c_ok q hq
    rw [e1, e2, e3] at h5
    exact zat_in h5 rfl
  · rintro k rfl
    unfold zcc at h
    try dsimp only at h
    obtain ⟨q, hq, e⟩ := List.any_eq_true.mp h
    simp only [Bool.and_eq_true, beq_iff_eq] at e
    obtain ⟨⟨e1, e2⟩, e3⟩ := e
    obtain ⟨q1, q2, q3, q4⟩ := q
    dsimp only at e1 e2 e3
    subst e1 e2 e3
    exact ⟨q3, hq⟩
theorem zgt_ok {m i k : Nat} (h : zt_g.any (fun q => q.1 == zow m && q.2.1 == i && q.2.2.1 == k) = true) : zlg m i k := by
  obtain ⟨q, hq, e⟩ := List.any_eq_true.mp h
  simp only [Bool.and_eq_true, beq_iff_eq] at e
  obtain ⟨⟨e1, e2⟩, e3⟩ := e
  by_cases h9 : q.2.2.2 = 9999
  · have h5 := List.all_eq_true.mp zt_gN_ok q (List.mem_filter.mpr ⟨hq, decide_eq_true h9⟩)
    rw [e1, e2, e3] at h5
    exact Or.inr ⟨_, of_decide_eq_true h5⟩
  · have h5 := List.all_eq_true.mp zt_g_ok q (List.mem_filter.mpr ⟨hq, decide_eq_true h9⟩)
    rw [e1, e2, e3] at h5
    exact Or.inl (zat_in h5 rfl)
theorem zgc_ok {m i : Nat} {d : List Nat} (h : zgc m i d = true) : (∀ k, d = [0, k] → (k = 1 ∨ k = 2 ∨ k = 3 ∨ k = 90) ∧ zlg m i k) ∧ ∀ v, d = [1, v] → v = 1 ∧ zlg m i 91 := by
  refine ⟨?_, ?_⟩
  · rintro k rfl
    unfold zgc at h
    try dsimp only at h
    obtain ⟨h1, h2⟩ := zand h
    refine ⟨?_, zgt_ok h2⟩
    simp only [Bool.or_eq_true, beq_iff_eq] at h1
    omega
  · rintro v rfl
    unfold zgc at h
    try dsimp only at h
    obtain ⟨h1, h2⟩ := zand h
    exact ⟨by simpa using h1, zgt_ok h2⟩
theorem znc_ok {m i b : Nat} (h : znc m i b = true) : Cond.classLink (zv_cn (zow m)) i (zv_cn b) ∈ zv_gw := by
  obtain ⟨q, hq, e⟩ := List.any_eq_true.mp h
  simp only [Bool.and_eq_true, beq_iff_eq] at e
  obtain ⟨⟨e1, e2⟩, e3⟩ := e
  have h5 := List.all_eq_true.mp zt_n_ok q hq
  rw [e1, e2, e3] at h5
  exact zat_in h5 rfl
theorem zt_ac : Cond.arrayClass .int ∈ zv_gw ∧ Cond.arrayClass .long ∈ zv_gw ∧ Cond.arrayClass .byte ∈ zv_gw ∧ Cond.arrayClass .boolean ∈ zv_gw := by
  refine ⟨?_, ?_, ?_, ?_⟩ <;> decide +kernel
theorem zt_sy : Cond.native arraycopyName ∈ zv_gw ∧ Cond.static arraycopyName ∈ zv_gw ∧ Cond.initialized "java/lang/System" ∈ zv_gw ∧ Cond.instanceMethod Lib.objectInit ∈ zv_gw ∧ Cond.code Lib.objectInit ⟨#[0xb1]⟩ 1 none ∈ zv_gw := by
  refine ⟨?_, ?_, ?_, ?_, ?_⟩ <;> decide +kernel
section ZOPS
variable {X : zv_X} {s0 : Nat} {ov : Nat → Value} {cA : Nat → ClassId} {D : va_G} {n0 z0 : Nat} {res : zv_R} {m : Nat} {p : Program} {l : Launch} {e : Env} {R : Room} {s : State} {mid : MethodId} {args : Array Value} {below : List Frame} {meth : Method} {c : Code} {Q : State → Prop}
variable {pc : Nat} {d : List Nat} {ls : zv_L} {st : List Value} {μ : zv_M} {k : zv_L → List Value → zv_M → Option zv_R}
theorem zs_ops (C : zCx X s0 ov cA D n0 z0 res m p R s mid args meth c) {i : Instr} (hc : zchk m (pc, i, d) = true) (h : zv_op X i d ls st μ k = some res) (h1 : ∀ n, i ≠ .invokestatic n) (h2 : ∀ n, i ≠ .invokevirtual n) (h3 : ∀ n, i ≠ .invokespecial n) (hM : ∀ (idx dm : Nat), i = .multianewarray idx dm → zW X s0 ov cA D n0 z0 res m p l e R s mid args below meth c Q pc ls st μ) (hk : ∀ ls st μ, k ls st μ = some res → zW X s0 ov cA D n0 z0 res m p l e R s mid args below meth c Q (pc + zlen i) ls st μ) : zW X s0 ov cA D n0 z0 res m p l e R s mid args below meth c Q pc ls st μ := by
  cases i with
  | iadd => exact zs_iadd C (zdec_ok hc) h hk
  | isub => exact zs_isub C (zdec_ok hc) h hk
  | imul => exact zs_imul C (zdec_ok hc) h hk
  | iand => exact zs_iand C (zdec_ok hc) h hk
  | ior => exact zs_ior C (zdec_ok hc) h hk
  | ishl => exact zs_ishl C (zdec_ok hc) h hk
  | ishr => exact zs_ishr C (zdec_ok hc) h hk
  | ladd => exact zs_ladd C (zdec_ok hc) h hk
  | lsub => exact zs_lsub C (zdec_ok hc) h hk
  | lmul => exact zs_lmul C (zdec_ok hc) h hk
  | lxor => exact zs_lxor C (zdec_ok hc) h hk
  | lcmp => exact zs_lcmp C (zdec_ok hc) h hk
  | idiv => exact zs_idiv C (zdec_ok hc) h hk
  | irem => exact zs_irem C (zdec_ok hc) h hk
  | ldiv => exact zs_ldiv C (zdec_ok hc) h hk
  | lrem => exact zs_lrem C (zdec_ok hc) h hk
  | ineg => exact zs_ineg C (zdec_ok hc) h hk
  | i2l => exact zs_i2l C (zdec_ok hc) h hk
  | i2b => exact zs_i2b C (zdec_ok hc) h hk
  | i2c => exact zs_i2c C (zdec_ok hc) h hk
  | lneg => exact zs_lneg C (zdec_ok hc) h hk
  | l2i => exact zs_l2i C (zdec_ok hc) h hk
  | iconst n => exact zs_iconst C (zdec_ok hc) h hk
  | bipush n => exact zs_bipush C (zdec_ok hc) h hk
  | sipush n => exact zs_sipush C (zdec_ok hc) h hk
  | lconst n => exact zs_lconst C (zdec_ok hc) h hk
  | iload_n n => exact zs_iload_n C (zdec_ok hc) h hk
  | iload n => exact zs_iload C (zdec_ok hc) h hk
  | lload_n n => exact zs_lload_n C (zdec_ok hc) h hk
  | lload n => exact zs_lload C (zdec_ok hc) h hk
  | aload_n n => exact zs_aload_n C (zdec_ok hc) h hk
  | aload n => exact zs_aload C (zdec_ok hc) h hk
  | istore_n n => exact zs_istore_n C (zdec_ok hc) h hk
  | istore n => exact zs_istore C (zdec_ok hc) h hk
  | lstore_n n => exact zs_lstore_n C (zdec_ok hc) h hk
  | lstore n => exact zs_lstore C (zdec_ok hc) h hk
  | astore_n n => exact zs_astore_n C (zdec_ok hc) h hk
  | astore n => exact zs_astore C (zdec_ok hc) h hk
  | iinc n b => exact zs_iinc C (zdec_ok hc) h hk
  | dup => exact zs_dup C (zdec_ok hc) h hk
  | pop => exact zs_pop C (zdec_ok hc) h hk
  | dup2 => exact zs_dup2 C (zdec_ok hc) h hk
  | iaload => exact zs_iaload C (zdec_ok hc) h hk
  | baload => exact zs_baload C (zdec_ok hc) h hk
  | laload => exact zs_laload C (zdec_ok hc) h hk
  | aaload => exact zs_aaload C (zdec_ok hc) h hk
  | iastore => exact zs_iastore C (zdec_ok hc) h hk
  | bastore => exact zs_bastore C (zdec_ok hc) h hk
  | lastore => exact zs_lastore C (zdec_ok hc) h hk
  | aastore => exact zs_aastore C (zdec_ok hc) h hk
  | arraylength => exact zs_arraylength C (zdec_ok hc) h hk
  | getfield n =>
    obtain ⟨a1, a2⟩ := zand hc
    exact zs_getfield C (zdec_ok a1) (zfc_ok a2) h hk
  | putfield n =>
    obtain ⟨a1, a2⟩ := zand hc
    obtain ⟨a2, a3⟩ := zand a2
    exact zs_putfield C (zdec_ok a1) (fun b j t e => ⟨zfc_ok a2 b j t e, zpc_ok a3 b j t e⟩) h hk
  | ldc n =>
    obtain ⟨a1, a2⟩ := zand hc
    exact zs_ldc C (zdec_ok a1) (zcc_ok a2) h hk
  | ldc_w n =>
    obtain ⟨a1, a2⟩ := zand hc
    obtain ⟨a2, a3⟩ := zand a2
    exact zs_ldc_w C (zdec_ok a1) (zcc_ok a2) (fun j e => by subst e; cases a3) h hk
  | ldc2_w n =>
    obtain ⟨a1, a2⟩ := zand hc
    refine zs_ldc2_w C (zdec_ok a1) (fun v e => ?_) h hk
    subst e
    obtain ⟨q, hq, e⟩ := List.any_eq_true.mp a2
    simp only [Bool.and_eq_true, beq_iff_eq] at e
    obtain ⟨⟨e1, e2⟩, e3⟩ := e
    have h5 := List.all_eq_true.mp zt_l_ok q hq
    rw [e1, e2, e3] at h5
    exact zat_in h5 rfl
  | getstatic n =>
    obtain ⟨a1, a2⟩ := zand hc
    exact zs_getstatic C (zdec_ok a1) (zgc_ok a2) h hk
  | new n =>
    obtain ⟨a1, a2⟩ := zand hc
    refine zs_new C (zdec_ok a1) (fun b e hb Cn Tn tyn K => ?_) h hk
    subst e
    dsimp only at a2
    have a3 : znc m n b = true := by
      rcases Bool.or_eq_true _ _ ▸ a2 with a3 | a3
      · exact a3
      · have := of_decide_eq_true a3
        omega
    rw [K.2.2.2.2.2.2.2.2]
    exact znc_ok a3
  | newarray y =>
    obtain ⟨a1, a2⟩ := zand hc
    refine zs_newarray C (zdec_ok a1) (fun t e ht => ?_) h hk
    subst e
    obtain ⟨a3, a4⟩ := zand a2
    refine ⟨of_decide_eq_true a4, ?_⟩
    rcases (show t = 0 ∨ t = 1 ∨ t = 2 ∨ t = 3 by omega) with rfl | rfl | rfl | rfl
    · exact zt_ac.1
    · exact zt_ac.2.1
    · exact zt_ac.2.2.1
    · exact zt_ac.2.2.2
  | anewarray n =>
    obtain ⟨a1, a2⟩ := zand hc
    exact zs_anewarray C (zdec_ok a1) (znc_ok a2) h hk
  | checkcast n =>
    obtain ⟨a1, a2⟩ := zand hc
    refine zs_checkcast C (zdec_ok a1) ?_ h hk
    obtain ⟨q, hq, e⟩ := List.any_eq_true.mp a2
    simp only [Bool.and_eq_true, beq_iff_eq] at e
    obtain ⟨e1, e2⟩ := e
    have h5 := List.all_eq_true.mp zt_k_ok q hq
    rw [e1, e2] at h5
    exact zat_in h5 rfl
  | multianewarray n dm => exact hM n dm rfl
  | invokestatic n => exact absurd rfl (h1 n)
  | invokevirtual n => exact absurd rfl (h2 n)
  | invokespecial n => exact absurd rfl (h3 n)
  | _ => exact absurd h (by unfold zv_op; exact fun q => by cases q)
end ZOPS
