section ZMAIN
variable {X : zv_X} {s0 : Nat} {ov : Nat → Value} {cA : Nat → ClassId} {D : va_G} {n0 z0 : Nat} {res : zv_R} {m : Nat} {p : Program} {l : Launch} {e : Env} {R : Room} {s : State} {mid : MethodId} {args : Array Value} {below : List Frame} {meth : Method} {c : Code} {Q : State → Prop}
variable {pc : Nat} {d : List Nat} {ls : zv_L} {st : List Value} {μ : zv_M} {k : zv_L → List Value → zv_M → Option zv_R}
theorem zmsk_len : ∀ (bs : List Bool) (ls : zv_L), (zv_msk bs ls).length = ls.length
  | [], ls => by cases ls <;> rfl
  | true :: bs, [] => rfl
  | false :: bs, [] => rfl
  | true :: bs, v :: ls => by simp [zv_msk, zmsk_len bs ls]
  | false :: bs, v :: ls => by simp [zv_msk, zmsk_len bs ls]
theorem zmsk_at : ∀ (bs : List Bool) (ls : zv_L) (j : Nat) (v : Value), (zv_msk bs ls)[j]? = some (some v) → ls[j]? = some (some v)
  | [], ls, j, v, h => by cases ls <;> exact h
  | true :: bs, [], j, v, h => h
  | false :: bs, [], j, v, h => h
  | true :: bs, w :: ls, 0, v, h => h
  | false :: bs, w :: ls, 0, v, h => by simp [zv_msk] at h
  | true :: bs, w :: ls, j + 1, v, h => by
    simp only [zv_msk, List.getElem?_cons_succ] at h ⊢
    exact zmsk_at bs ls j v h
  | false :: bs, w :: ls, j + 1, v, h => by
    simp only [zv_msk, List.getElem?_cons_succ] at h ⊢
    exact zmsk_at bs ls j v h
theorem zs_jmp {K : zv_C → Option zv_R} (hJ : ∀ l9 ls st μ, K (m, l9, ls, st, μ) = some res → zW X s0 ov cA D n0 z0 res m p l e R s mid args below meth c Q l9 ls st μ) {l9 : Nat} (h : K (zv_jmp m l9 ls st μ) = some res) : zW X s0 ov cA D n0 z0 res m p l e R s mid args below meth c Q l9 ls st μ := by
  unfold zv_jmp at h
  split at h
  · rename_i b hb
    have g := hJ _ _ _ _ h
    exact ⟨g.1, fun H locs rl h1 h2 hP hS hl hL => g.2 H locs rl h1 h2 hP hS (zal_sub hl (fun j v hv => zal_mem.mpr ⟨v, zmsk_at _ _ _ _ hv, rfl⟩)) (by rw [zmsk_len]; exact hL)⟩
  · exact hJ _ _ _ _ h
theorem zs_ifc (C : zCx X s0 ov cA D n0 z0 res m p R s mid args meth c) {K : zv_C → Option zv_R} (hJ : ∀ l9 ls st μ, K (m, l9, ls, st, μ) = some res → zW X s0 ov cA D n0 z0 res m p l e R s mid args below meth c Q l9 ls st μ) {b9 : ClassFile.Cond} {off : Int} {l9 : Nat} {x : Int32} (hd : decode (zv_mb m) pc = .ok (.ifCond b9 off, 3)) (ht : (pc : Int) + off = (l9 : Int)) (h : zv_if b9 x 0 (K (zv_jmp m l9 ls st μ)) (k ls st μ) = some res) (hk : ∀ ls st μ, k ls st μ = some res → zW X s0 ov cA D n0 z0 res m p l e R s mid args below meth c Q (pc + 3) ls st μ) : zW X s0 ov cA D n0 z0 res m p l e R s mid args below meth c Q pc ls (.int x :: st) μ := by
  unfold zv_if at h
  cases b9
  · dsimp only at h
    split at h
    · rename_i hx
      have g := zs_jmp hJ h
      exact ⟨g.1, fun H locs rl h1 h2 hP hS hl hL => lv_if_eq C.1 C.2.1 hd ht (fun _ => g.2 H locs rl h1 h2 hP hS hl hL) (fun h9 => absurd hx h9)⟩
    · rename_i hx
      have g := hk _ _ _ h
      exact ⟨g.1, fun H locs rl h1 h2 hP hS hl hL => lv_if_eq C.1 C.2.1 hd ht (fun h9 => absurd h9 hx) (fun _ => g.2 H locs rl h1 h2 hP hS hl hL)⟩
  · dsimp only at h
    split at h
    · rename_i hx
      have g := hk _ _ _ h
      exact ⟨g.1, fun H locs rl h1 h2 hP hS hl hL => lv_if_ne C.1 C.2.1 hd ht (fun h9 => absurd hx h9) (fun _ => g.2 H locs rl h1 h2 hP hS hl hL)⟩
    · rename_i hx
      have g := zs_jmp hJ h
      exact ⟨g.1, fun H locs rl h1 h2 hP hS hl hL => lv_if_ne C.1 C.2.1 hd ht (fun _ => g.2 H locs rl h1 h2 hP hS hl hL) (fun h9 => absurd h9 hx)⟩
  · dsimp only at h
    split at h
    · rename_i hx
      have g := zs_jmp hJ h
      exact ⟨g.1, fun H locs rl h1 h2 hP hS hl hL => lv_if_lt C.1 C.2.1 hd ht (fun _ => g.2 H locs rl h1 h2 hP hS hl hL) (fun h9 => absurd hx h9)⟩
    · rename_i hx
      have g := hk _ _ _ h
      exact ⟨g.1, fun H locs rl h1 h2 hP hS hl hL => lv_if_lt C.1 C.2.1 hd ht (fun h9 => absurd h9 hx) (fun _ => g.2 H locs rl h1 h2 hP hS hl hL)⟩
  · dsimp only at h
    split at h
    · rename_i hx
      have g := zs_jmp hJ h
      exact ⟨g.1, fun H locs rl h1 h2 hP hS hl hL => lv_if_ge C.1 C.2.1 hd ht (fun _ => g.2 H locs rl h1 h2 hP hS hl hL) (fun h9 => absurd hx h9)⟩
    · rename_i hx
      have g := hk _ _ _ h
      exact ⟨g.1, fun H locs rl h1 h2 hP hS hl hL => lv_if_ge C.1 C.2.1 hd ht (fun h9 => absurd h9 hx) (fun _ => g.2 H locs rl h1 h2 hP hS hl hL)⟩
  · dsimp only at h
    split at h
    · rename_i hx
      have g := zs_jmp hJ h
      exact ⟨g.1, fun H locs rl h1 h2 hP hS hl hL => lv_if_gt C.1 C.2.1 hd ht (fun _ => g.2 H locs rl h1 h2 hP hS hl hL) (fun h9 => absurd hx h9)⟩
    · rename_i hx
      have g := hk _ _ _ h
      exact ⟨g.1, fun H locs rl h1 h2 hP hS hl hL => lv_if_gt C.1 C.2.1 hd ht (fun h9 => absurd h9 hx) (fun _ => g.2 H locs rl h1 h2 hP hS hl hL)⟩
  · dsimp only at h
    split at h
    · rename_i hx
      have g := zs_jmp hJ h
      exact ⟨g.1, fun H locs rl h1 h2 hP hS hl hL => lv_if_le C.1 C.2.1 hd ht (fun _ => g.2 H locs rl h1 h2 hP hS hl hL) (fun h9 => absurd hx h9)⟩
    · rename_i hx
      have g := hk _ _ _ h
      exact ⟨g.1, fun H locs rl h1 h2 hP hS hl hL => lv_if_le C.1 C.2.1 hd ht (fun h9 => absurd h9 hx) (fun _ => g.2 H locs rl h1 h2 hP hS hl hL)⟩
theorem zs_icmp (C : zCx X s0 ov cA D n0 z0 res m p R s mid args meth c) {K : zv_C → Option zv_R} (hJ : ∀ l9 ls st μ, K (m, l9, ls, st, μ) = some res → zW X s0 ov cA D n0 z0 res m p l e R s mid args below meth c Q l9 ls st μ) {b9 : ClassFile.Cond} {off : Int} {l9 : Nat} {x y : Int32} (hd : decode (zv_mb m) pc = .ok (.if_icmp b9 off, 3)) (ht : (pc : Int) + off = (l9 : Int)) (h : zv_if b9 x y (K (zv_jmp m l9 ls st μ)) (k ls st μ) = some res) (hk : ∀ ls st μ, k ls st μ = some res → zW X s0 ov cA D n0 z0 res m p l e R s mid args below meth c Q (pc + 3) ls st μ) : zW X s0 ov cA D n0 z0 res m p l e R s mid args below meth c Q pc ls (.int y :: .int x :: st) μ := by
  unfold zv_if at h
  cases b9
  · dsimp only at h
    split at h
    · rename_i hx
      have g := zs_jmp hJ h
      exact ⟨g.1, fun H locs rl h1 h2 hP hS hl hL => lv_icmp_eq C.1 C.2.1 hd ht (fun _ => g.2 H locs rl h1 h2 hP hS hl hL) (fun h9 => absurd hx h9)⟩
    · rename_i hx
      have g := hk _ _ _ h
      exact ⟨g.1, fun H locs rl h1 h2 hP hS hl hL => lv_icmp_eq C.1 C.2.1 hd ht (fun h9 => absurd h9 hx) (fun _ => g.2 H locs rl h1 h2 hP hS hl hL)⟩
  · dsimp only at h
    split at h
    · rename_i hx
      have g := hk _ _ _ h
      exact ⟨g.1, fun H locs rl h1 h2 hP hS hl hL => lv_icmp_ne C.1 C.2.1 hd ht (fun h9 => absurd hx h9) (fun _ => g.2 H locs rl h1 h2 hP hS hl hL)⟩
    · rename_i hx
      have g := zs_jmp hJ h
      exact ⟨g.1, fun H locs rl h1 h2 hP hS hl hL => lv_icmp_ne C.1 C.2.1 hd ht (fun _ => g.2 H locs rl h1 h2 hP hS hl hL) (fun h9 => absurd h9 hx)⟩
  · dsimp only at h
    split at h
    · rename_i hx
      have g := zs_jmp hJ h
      exact ⟨g.1, fun H locs rl h1 h2 hP hS hl hL => lv_icmp_lt C.1 C.2.1 hd ht (fun _ => g.2 H locs rl h1 h2 hP hS hl hL) (fun h9 => absurd hx h9)⟩
    · rename_i hx
      have g := hk _ _ _ h
      exact ⟨g.1, fun H locs rl h1 h2 hP hS hl hL => lv_icmp_lt C.1 C.2.1 hd ht (fun h9 => absurd h9 hx) (fun _ => g.2 H locs rl h1 h2 hP hS hl hL)⟩
  · dsimp only at h
    split at h
    · rename_i hx
      have g := zs_jmp hJ h
      exact ⟨g.1, fun H locs rl h1 h2 hP hS hl hL => lv_icmp_ge C.1 C.2.1 hd ht (fun _ => g.2 H locs rl h1 h2 hP hS hl hL) (fun h9 => absurd hx h9)⟩
    · rename_i hx
      have g := hk _ _ _ h
      exact ⟨g.1, fun H locs rl h1 h2 hP hS hl hL => lv_icmp_ge C.1 C.2.1 hd ht (fun h9 => absurd h9 hx) (fun _ => g.2 H locs rl h1 h2 hP hS hl hL)⟩
  · dsimp only at h
    split at h
    · rename_i hx
      have g := zs_jmp hJ h
      exact ⟨g.1, fun H locs rl h1 h2 hP hS hl hL => lv_icmp_gt C.1 C.2.1 hd ht (fun _ => g.2 H locs rl h1 h2 hP hS hl hL) (fun h9 => absurd hx h9)⟩
    · rename_i hx
      have g := hk _ _ _ h
      exact ⟨g.1, fun H locs rl h1 h2 hP hS hl hL => lv_icmp_gt C.1 C.2.1 hd ht (fun h9 => absurd h9 hx) (fun _ => g.2 H locs rl h1 h2 hP hS hl hL)⟩
  · dsimp only at h
    split at h
    · rename_i hx
      have g := zs_jmp hJ h
      exact ⟨g.1, fun H locs rl h1 h2 hP hS hl hL => lv_icmp_le C.1 C.2.1 hd ht (fun _ => g.2 H locs rl h1 h2 hP hS hl hL) (fun h9 => absurd hx h9)⟩
    · rename_i hx
      have g := hk _ _ _ h
      exact ⟨g.1, fun H locs rl h1 h2 hP hS hl hL => lv_icmp_le C.1 C.2.1 hd ht (fun h9 => absurd h9 hx) (fun _ => g.2 H locs rl h1 h2 hP hS hl hL)⟩
theorem zt_cl : Cond.methodLink "GuessedPlace$State" 25 ⟨"[I", "clone", "()Ljava/lang/Object;"⟩ ∈ zv_gw ∧ Cond.sameMethod "[I" "java/lang/Object" "clone" "()Ljava/lang/Object;" ∈ zv_gw ∧ Cond.native ⟨"java/lang/Object", "clone", "()Ljava/lang/Object;"⟩ ∈ zv_gw ∧ Cond.instanceMethod ⟨"java/lang/Object", "clone", "()Ljava/lang/Object;"⟩ ∈ zv_gw ∧ Cond.selects "[I" ⟨"[I", "clone", "()Ljava/lang/Object;"⟩ ⟨"java/lang/Object", "clone", "()Ljava/lang/Object;"⟩ ∈ zv_gw ∧ Cond.castable "[I" "java/lang/Cloneable" ∈ zv_nw := by
  refine ⟨?_, ?_, ?_, ?_, ?_, ?_⟩ <;> decide +kernel
theorem zs_clone (C : zCx X s0 ov cA D n0 z0 res m p R s mid args meth c) (hd : decode (zv_mb m) pc = .ok (.invokevirtual 25, 3)) (hw : zow m = 9 ∧ 1 ≤ (zv_mi m).2.2.2.1 ∧ 22 ≤ (zv_mi m).2.2.2.2.1) (h : zv_op X (.invokevirtual 25) d ls st μ k = some res) (hk : ∀ ls st μ, k ls st μ = some res → zW X s0 ov cA D n0 z0 res m p l e R s mid args below meth c Q (pc + 3) ls st μ) : zW X s0 ov cA D n0 z0 res m p l e R s mid args below meth c Q pc ls st μ := by
  unfold zv_op at h
  dsimp only at h
  split at h
  · rename_i st
    split at h
    · cases h
    · rename_i hq
      have g := hk _ _ _ h
      have el : (zv_wA (zv_mk μ (.inl (0, 8))) μ.1.length (zv_old X 1).2).1 = (zv_mk μ (.inl (0, 8))).1 := rfl
      refine ⟨⟨Nat.le_trans (by rw [el, zmk_len]; omega) g.1.1, Nat.le_trans (by rw [el, zmk_sl]; omega) g.1.2⟩, fun H locs rl h1 h2 hP hS hl hL => ?_⟩
      obtain ⟨t, cell, e1, e2, e3, e4, e5, e6, e7, e8⟩ := C.2.2.2.2.2.2.2.2.2.2.2.1.2.2.2.2.2.2.2.2
      have hc1 : μ.1.length - n0 + 1 ≤ R.cells := by
        have a1 := g.1.1
        have a2 := C.2.2.2.2.2.2.2.2.2.2.2.2.2.1
        rw [el, zmk_len] at a1
        omega
      have hs1 : zsl μ.1 - z0 + cell.slots.size ≤ R.slots := by
        have a1 := g.1.2
        have a2 := C.2.2.2.2.2.2.2.2.2.2.2.2.2.2.1
        rw [el, zmk_sl] at a1
        have a3 : zsz (.inl (0, 8)) = 8 := rfl
        rw [e7]
        omega
      have hHt : H[t]? = some cell := by rw [hS.2.1 t (Array.getElem?_eq_some_iff.mp e3).1 e2]; exact e3
      have ecls : cell.cls = cA 0 := Option.some.inj (e6.symm.trans (va_nm_int (C.2.2.2.2.2.2.2.2.2.2.1.2 0 _ rfl).2))
      have hcell : ({ cls := cell.cls, slots := cell.slots } : Cell) = vp_cell (cA 0) (8, .inl (zv_old X 1).2) := by
        rw [ecls, vp_cell_i]
        have hsl : cell.slots = (arrV (cA 0) 8 (fun j => .int ((zv_old X 1).2 j))).slots := by
          apply Array.ext_getElem?
          intro i
          by_cases hi : i < 8
          · rw [e8 i hi, arrV_read _ _ hi]
          · rw [Array.getElem?_eq_none (by omega), Array.getElem?_eq_none (by rw [arrV_size]; omega)]
        rw [hsl]
        rfl
      have eown : zv_cn (zv_mi m).2.2.1 = "GuessedPlace$State" := by
        have e9 : (zv_mi m).2.2.1 = 9 := hw.1
        rw [e9]
        rfl
      have hown : s.vm.findClass "GuessedPlace$State" = some mid.cls := by rw [← eown]; exact C.2.2.2.1
      obtain ⟨c0, t0', f1, f2, f3⟩ := Cond.castable_spec (va_Nw.use (A := args) rfl (C.2.2.2.2.2.2.2.2.2.2.2.1.2.2.2.2.1 _ zt_cl.2.2.2.2.2))
      have ec : cell.cls = c0 := Option.some.inj (e6.symm.trans f1)
      have ert : zc s0 ov (.retAddr 1) = .ref t := e1
      rw [List.map_cons, ert]
      intro T hT X9
      have hsz : H.size = s0 + μ.1.length := by
        have := X9.heapSize
        rw [hT, C.2.2.2.2.2.2.2.2.2.2.2.2.1] at this
        exact zHsz hP hS (by rw [C.2.2.2.2.2.2.2.2.2.2.2.2.1]; exact Nat.le_add_right _ _) (by omega)
      obtain ⟨-, kS, hkS, compS, hkindS⟩ := (C.2.2.2.2.2.2.2.2.2.2.1.2 0 _ rfl).1 0 (fun _ => .null)
      have hkS : s.vm.classes[cA 0]? = some kS := hkS
      obtain ⟨kT, hkT, heT⟩ := X9.warmed.alike.2.2 _ _ hkS
      have hkindT : kT.kind = .array compS .int := by rw [heT]; exact hkindS
      obtain ⟨vm', X', step⟩ := X9.cloneArray C.1 hown (C.2.2.2.2.1 _ zt_cl.1) (C.2.2.2.2.1 _ zt_cl.2.1) (C.2.2.2.2.1 _ zt_cl.2.2.1) (C.2.2.2.2.1 _ zt_cl.2.2.2.1) (C.2.2.2.2.1 _ zt_cl.2.2.2.2.1) (a := t) (cell := cell) (by rw [hT]; exact hHt) (fun k9 h9 => by rw [h9] at e4; cases e4) e5 e6 f2 (by rw [ec]; exact f3)
        (fun i v hv => by
          have hi : i < 8 := by rw [← e7]; exact (Array.getElem?_eq_some_iff.mp hv).1
          rw [e8 i hi] at hv
          cases hv
          rw [ecls]
          simp [State.fitsSlot, State.slotType?, hkT, hkindT, fits])
        (g := F0 mid pc rl (.ref t :: st.map (zc s0 ov))) rfl (by rw [C.2.2.1]; exact hl.1) rfl (by rw [C.2.1]; exact hd) (Nat.le_trans hw.2.1 C.2.2.2.2.2.2.2.2.1) (by
          show 2 * 0 + _ + 14 ≤ R.locals
          rw [zc_cats C.2.2.2.2.2.2.2.2.2.2.2.2.2.2.2.1]
          have := C.2.2.2.2.2.2.2.2.2.1
          have := hw.2.2
          omega) hc1 hs1 (hloader := by rw [ecls]; exact Vm.clonesLoader_of_array hkS hkindS)
      rw [hcell] at X' step
      have hws : zws s0 cA (zv_wA (zv_mk μ (.inl (0, 8))) μ.1.length (zv_old X 1).2) = zws s0 cA μ ++ [(s0 + μ.1.length, .inl (cA 0, 8, .inl (zv_old X 1).2))] := by
        have e9 : zw s0 cA (zv_wA (zv_mk μ (.inl (0, 8))) μ.1.length (zv_old X 1).2) μ.1.length = .inl (cA 0, 8, .inl (zv_old X 1).2) := by
          rw [zw_ar (μ := zv_wA (zv_mk μ (.inl (0, 8))) μ.1.length (zv_old X 1).2) (t := 0) (n := 8) (by exact zmk_at)]
          simp [zdt, zv_wA, va_up]
        rw [zws_push (μ := μ) (sh := .inl (0, 8)) rfl (fun j hj => ?_), e9]
        · have hj2 : j ≠ μ.1.length := Nat.ne_of_lt hj
          simp [zv_wA, zv_mk, va_up, hj2]
      have z1 : (H.push (vp_cell (cA 0) (8, .inl (zv_old X 1).2))).size = H.size + 1 := Array.size_push _
      have o1 : ∀ q : Nat, q < H.size → (H.push (vp_cell (cA 0) (8, .inl (zv_old X 1).2)))[q]? = H[q]? := fun q hq => by rw [Array.getElem?_push, if_neg (Nat.ne_of_lt hq)]
      have hP1 : va_P D vwCl (zws s0 cA (zv_wA (zv_mk μ (.inl (0, 8))) μ.1.length (zv_old X 1).2)) (H.push (vp_cell (cA 0) (8, .inl (zv_old X 1).2))) := by
        rw [hws]
        refine (hP.kept (fun k9 y hy => o1 y.1 ((hP k9 y hy).lt))).app (fun k9 y hy => ?_)
        have hz : k9 < 1 := (List.getElem?_eq_some_iff.mp hy).1
        rw [show k9 = 0 by omega] at hy
        cases hy
        show (H.push _)[s0 + μ.1.length]? = some (vp_cell _ _)
        rw [← hsz, Array.getElem?_push_size]
      have gg := W.cs (cells := μ.1.length - n0 + 1) (slots := zsl μ.1 - z0 + cell.slots.size) (by rw [el, zmk_len]; omega) (by rw [el, zmk_sl, e7]; show _ = zsl μ.1 + 8 - z0; omega) (g.2 (H.push (vp_cell (cA 0) (8, .inl (zv_old X 1).2))) locs rl (by rw [el, zmk_len]; omega) (by rw [el, zmk_sl]; omega) hP1 ⟨Nat.le_trans hS.1 (by omega), fun q a1 a2 => (o1 q (Nat.lt_of_lt_of_le a1 hS.1)).trans (hS.2.1 q a1 a2), hS.2.2⟩ hl hL)
      obtain ⟨t2, b1, b2⟩ := gg ((T.setVm vm').pushCell (vp_cell (cA 0) (8, .inl (zv_old X 1).2))) (by rw [← hT]; rfl) X'
      refine ⟨t2, step t2 ?_, b2⟩
      rw [hT, hsz]
      exact b1
  · cases h
end ZMAIN
