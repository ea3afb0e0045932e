section ZS3
variable {X : zv_X} {s0 : Nat} {ov : Nat → Value} {cA : Nat → ClassId} {D : va_G} {n0 z0 : Nat} {res : zv_R} {m : Nat} {p : Program} {l : Launch} {e : Env} {R : Room} {s : State} {mid : MethodId} {args : Array Value} {below : List Frame} {meth : Method} {c : Code} {Q : State → Prop}
variable {pc : Nat} {d : List Nat} {ls : zv_L} {st : List Value} {μ : zv_M} {k : zv_L → List Value → zv_M → Option zv_R}
def zlc (m idx : Nat) (d : List Nat) : Prop := (∀ v, d = [0, v] → Cond.constant (zv_cn (zv_mi m).2.2.1) idx (Int32.ofNat v) ∈ zv_gw) ∧ ∀ i, d = [1, i] → ∃ tx, ((zv_mi m).2.2.1, idx, tx, i) ∈ zv_sr
theorem zs_ldc (C : zCx X s0 ov cA D n0 z0 res m p R s mid args meth c) {idx : Nat} (hd : decode (zv_mb m) pc = .ok (.ldc idx, 2)) (hw : zlc m idx d) (h : zv_op X (.ldc idx) d ls st μ k = some res) (hk : ∀ ls st μ, k ls st μ = some res → zW X s0 ov cA D n0 z0 res m p l e R s mid args below meth c Q (pc + 2) ls st μ) : zW X s0 ov cA D n0 z0 res m p l e R s mid args below meth c Q pc ls st μ := by
  change zv_ldc d (fun v => k ls (v :: st) μ) = some res at h
  unfold zv_ldc at h
  split at h
  · rename_i v
    have g := hk _ _ _ h
    exact ⟨g.1, fun H locs rl h1 h2 hP hS hl hL => lv_ldc C.1 C.2.1 C.2.2.2.1 (C.2.2.2.2.1 _ (hw.1 v rfl)) hd (g.2 H locs rl h1 h2 hP hS hl hL)⟩
  · rename_i i
    have g := hk _ _ _ h
    obtain ⟨tx, htx⟩ := hw.2 i rfl
    obtain ⟨a, q1, q2⟩ := C.2.2.2.2.2.2.2.2.2.2.2.1.2.2.2.1 _ htx
    refine ⟨g.1, fun H locs rl h1 h2 hP hS hl hL => ?_⟩
    have g2 := g.2 H locs rl h1 h2 hP hS hl hL
    have e3 : zc s0 ov (.retAddr i) = .ref a := q1
    rw [List.map_cons, e3] at g2
    exact va_ldcS C.1 C.2.1 C.2.2.2.1 q2 hd g2
  · cases h
theorem zs_ldc_w (C : zCx X s0 ov cA D n0 z0 res m p R s mid args meth c) {idx : Nat} (hd : decode (zv_mb m) pc = .ok (.ldc_w idx, 3)) (hw : zlc m idx d) (hw1 : ∀ i, d ≠ [1, i]) (h : zv_op X (.ldc_w idx) d ls st μ k = some res) (hk : ∀ ls st μ, k ls st μ = some res → zW X s0 ov cA D n0 z0 res m p l e R s mid args below meth c Q (pc + 3) ls st μ) : zW X s0 ov cA D n0 z0 res m p l e R s mid args below meth c Q pc ls st μ := by
  change zv_ldc d (fun v => k ls (v :: st) μ) = some res at h
  unfold zv_ldc at h
  split at h
  · rename_i v
    have g := hk _ _ _ h
    exact ⟨g.1, fun H locs rl h1 h2 hP hS hl hL => lv_ldcw C.1 C.2.1 C.2.2.2.1 (C.2.2.2.2.1 _ (hw.1 v rfl)) hd (g.2 H locs rl h1 h2 hP hS hl hL)⟩
  · rename_i i
    exact absurd rfl (hw1 i)
  · cases h
theorem zs_ldc2_w (C : zCx X s0 ov cA D n0 z0 res m p R s mid args meth c) {idx : Nat} (hd : decode (zv_mb m) pc = .ok (.ldc2_w idx, 3)) (hw : ∀ v, d = [v] → Cond.constantLong (zv_cn (zv_mi m).2.2.1) idx (Int64.ofNat v) ∈ zv_gw) (h : zv_op X (.ldc2_w idx) d ls st μ k = some res) (hk : ∀ ls st μ, k ls st μ = some res → zW X s0 ov cA D n0 z0 res m p l e R s mid args below meth c Q (pc + 3) ls st μ) : zW X s0 ov cA D n0 z0 res m p l e R s mid args below meth c Q pc ls st μ := by
  unfold zv_op at h
  dsimp only at h
  split at h
  · rename_i v
    have g := hk _ _ _ h
    exact ⟨g.1, fun H locs rl h1 h2 hP hS hl hL => lv_ldc2 C.1 C.2.1 C.2.2.2.1 (C.2.2.2.2.1 _ (hw v rfl)) hd (g.2 H locs rl h1 h2 hP hS hl hL)⟩
  · cases h
def zsn (i : Nat) : String × String × String := match i with
  | 1 => ("GuessedPlace", "FIRST_TOLD", "[I")
  | 2 => ("GuessedPlace", "LEAST_TOLD", "[I")
  | 3 => ("GuessedPlace", "MOST_TOLD", "[I")
  | 90 => ("jdk/internal/util/Preconditions", "SIOOBE_FORMATTER", "Ljava/util/function/BiFunction;")
  | _ => ("java/lang/String", "COMPACT_STRINGS", "Z")
def zlg (m idx i : Nat) : Prop := Cond.fieldLink (zv_cn (zv_mi m).2.2.1) idx (zsn i).1 (zsn i).2.1 (zsn i).2.2 ∈ zv_gw ∨ ∃ host, Cond.fieldLinkNest (zv_cn (zv_mi m).2.2.1) idx (zsn i).1 (zsn i).2.1 (zsn i).2.2 host ∈ zv_nw
theorem zs_gets1 (C : zCx X s0 ov cA D n0 z0 res m p R s mid args meth c) {idx i : Nat} {v : Value} {H : Heap} {locs : List Loc} {rl : Array Slot} {rest : List Value} {cells slots : Nat} (hd : decode (zv_mb m) pc = .ok (.getstatic idx, 3)) (hw : zlg m idx i) (hZ : va_Z (zsn i).1 (zsn i).2.1 (zsn i).2.2 v (fun q => s0 ≤ q) s s.heap) (hS : va_S (fun q => s0 ≤ q) s.heap H locs)
    (kk : W p l e R s mid args below meth c H locs cells slots Q (F0 mid (pc + 3) rl (v :: rest))) : W p l e R s mid args below meth c H locs cells slots Q (F0 mid pc rl rest) := by
  rcases hw with hw | ⟨host, hw⟩
  · exact va_gets C.1 C.2.1 hZ hS C.2.2.2.1 (C.2.2.2.2.1 _ hw) (fun _ h9 => h9) hd kk
  · exact va_getsN C.1 C.2.1 hZ hS C.2.2.2.1 (va_Nw.use rfl (C.2.2.2.2.2.2.2.2.2.2.2.1.2.2.2.2.1 _ hw)) (fun _ h9 => h9) hd kk
theorem zs_getstatic (C : zCx X s0 ov cA D n0 z0 res m p R s mid args meth c) {idx : Nat} (hd : decode (zv_mb m) pc = .ok (.getstatic idx, 3)) (hw : (∀ i, d = [0, i] → (i = 1 ∨ i = 2 ∨ i = 3 ∨ i = 90) ∧ zlg m idx i) ∧ ∀ v, d = [1, v] → v = 1 ∧ zlg m idx 91) (h : zv_op X (.getstatic idx) d ls st μ k = some res) (hk : ∀ ls st μ, k ls st μ = some res → zW X s0 ov cA D n0 z0 res m p l e R s mid args below meth c Q (pc + 3) ls st μ) : zW X s0 ov cA D n0 z0 res m p l e R s mid args below meth c Q pc ls st μ := by
  unfold zv_op at h
  dsimp only at h
  split at h
  · rename_i i
    have g := hk _ _ _ h
    obtain ⟨hi, hq⟩ := hw.1 i rfl
    obtain ⟨z1, z2, z3, z4, z5⟩ := C.2.2.2.2.2.2.2.2.2.2.2.1.2.2.1
    refine ⟨g.1, fun H locs rl h1 h2 hP hS hl hL => ?_⟩
    have g2 := g.2 H locs rl h1 h2 hP hS hl hL
    rcases hi with rfl | rfl | rfl | rfl
    · exact zs_gets1 C hd hq z1 hS g2
    · exact zs_gets1 C hd hq z2 hS g2
    · exact zs_gets1 C hd hq z3 hS g2
    · exact zs_gets1 C hd hq z5 hS g2
  · rename_i v
    have g := hk _ _ _ h
    obtain ⟨rfl, hq⟩ := hw.2 v rfl
    obtain ⟨z1, z2, z3, z4, z5⟩ := C.2.2.2.2.2.2.2.2.2.2.2.1.2.2.1
    exact ⟨g.1, fun H locs rl h1 h2 hP hS hl hL => zs_gets1 C hd hq z4 hS (g.2 H locs rl h1 h2 hP hS hl hL)⟩
  · cases h
theorem W_have {p : Program} {l : Launch} {e : Env} {R : Room} {s : State} {m : MethodId} {args : Array Value} {below : List Frame} {meth : Method} {c : Code} {H : Heap} {locs : List Loc} {cells slots : Nat} {Q : State → Prop} {g : JFrame} {P : Prop} (h : ∀ T, T.heap = H → Stand p l e R s m args below meth c T locs cells slots → P) (k : P → W p l e R s m args below meth c H locs cells slots Q g) : W p l e R s m args below meth c H locs cells slots Q g := fun T hT X => k (h T hT X) T hT X
theorem zpin {s0 : Nat} {cA : Nat → ClassId} {D : va_G} {μ : zv_M} {q : Nat} {e : va_E} {H1 : Heap} (hP1 : va_P D vwCl (zws s0 cA μ ++ [(q, e)]) H1) (hD1 : va_D (fun q => s0 ≤ q) (zws s0 cA μ ++ [(q, e)])) (hsz : H1.size ≤ s0 + μ.1.length + 1) : q = s0 + μ.1.length := by
  have hn : (zws s0 cA μ ++ [(q, e)])[μ.1.length]? = some (q, e) := by
    rw [List.getElem?_append_right (by rw [zws_len]; exact Nat.le_refl _), zws_len, Nat.sub_self]
    rfl
  have h1 : s0 ≤ q := hD1.2 _ _ hn
  have h2 : q < H1.size := (hP1 _ _ hn).lt
  by_cases h3 : q = s0 + μ.1.length
  · exact h3
  · exfalso
    have hj : q - s0 < μ.1.length := by omega
    have hg : (zws s0 cA μ ++ [(q, e)])[q - s0]? = some (s0 + (q - s0), zw s0 cA μ (q - s0)) := by
      rw [List.getElem?_append_left (by rw [zws_len]; exact hj), zws_get hj]
    have := hD1.1 (q - s0) μ.1.length _ _ hg hn (by show s0 + (q - s0) = q; omega)
    omega
theorem zmk_1 {μ : zv_M} {sh : (Nat × Nat) ⊕ Nat} : (zv_mk μ sh).1 = μ.1 ++ [sh] := rfl
theorem zmk_len {μ : zv_M} {sh : (Nat × Nat) ⊕ Nat} : (zv_mk μ sh).1.length = μ.1.length + 1 := by rw [zmk_1, List.length_append]; rfl
theorem zmk_sl {μ : zv_M} {sh : (Nat × Nat) ⊕ Nat} : zsl (zv_mk μ sh).1 = zsl μ.1 + zsz sh := by rw [zmk_1, zsl_app]; rfl
theorem zmk_at {μ : zv_M} {sh : (Nat × Nat) ⊕ Nat} : (zv_mk μ sh).1[μ.1.length]? = some sh := by rw [zmk_1, List.getElem?_append_right (Nat.le_refl _), Nat.sub_self]; rfl
theorem zmk_old {μ : zv_M} {sh : (Nat × Nat) ⊕ Nat} {j : Nat} (h : j < μ.1.length) : (zv_mk μ sh).2.1 j = μ.2.1 j ∧ (zv_mk μ sh).2.2.1 j = μ.2.2.1 j ∧ (zv_mk μ sh).2.2.2 j = μ.2.2.2 j := by
  have hj : j ≠ μ.1.length := Nat.ne_of_lt h
  simp [zv_mk, va_up, hj]
theorem zmk_ws {s0 : Nat} {cA : Nat → ClassId} {μ : zv_M} {sh : (Nat × Nat) ⊕ Nat} {e : va_E} (he : zw s0 cA (zv_mk μ sh) μ.1.length = e) : zws s0 cA (zv_mk μ sh) = zws s0 cA μ ++ [(s0 + μ.1.length, e)] := by
  rw [zws_push zmk_1 (fun j h => zmk_old h), he]
theorem zmk_I {μ : zv_M} {sh : (Nat × Nat) ⊕ Nat} : (zv_mk μ sh).2.1 μ.1.length = fun _ => 0 := by simp [zv_mk, va_up]
theorem zmk_L {μ : zv_M} {sh : (Nat × Nat) ⊕ Nat} : (zv_mk μ sh).2.2.1 μ.1.length = fun _ => 0 := by simp [zv_mk, va_up]
theorem zmk_P {μ : zv_M} {sh : (Nat × Nat) ⊕ Nat} : (zv_mk μ sh).2.2.2 μ.1.length = fun _ => none := by simp [zv_mk, va_up]
theorem zs_new (C : zCx X s0 ov cA D n0 z0 res m p R s mid args meth c) {idx : Nat} (hd : decode (zv_mb m) pc = .ok (.new idx, 3)) (hw : ∀ b, d = [b] → b < 13 → ∀ C T ty, zk_c b C T ty → Cond.classLink (zv_cn (zv_mi m).2.2.1) idx C ∈ zv_gw) (h : zv_op X (.new idx) d ls st μ k = some res) (hk : ∀ ls st μ, k ls st μ = some res → zW X s0 ov cA D n0 z0 res m p l e R s mid args below meth c Q (pc + 3) ls st μ) : zW X s0 ov cA D n0 z0 res m p l e R s mid args below meth c Q pc ls st μ := by
  unfold zv_op at h
  dsimp only at h
  split at h
  rename_i b
  split at h
  · rename_i hb
    have g := hk _ _ _ h
    obtain ⟨Cn, Tn, tyn, K⟩ := zk_all b hb
    refine ⟨⟨Nat.le_trans (by rw [zmk_len]; omega) g.1.1, Nat.le_trans (by rw [zmk_sl]; omega) g.1.2⟩, fun H locs rl h1 h2 hP hS hl hL => ?_⟩
    have hc1 : μ.1.length - n0 + 1 ≤ R.cells := by
      have a1 := g.1.1
      have a2 := C.2.2.2.2.2.2.2.2.2.2.2.2.2.1
      rw [zmk_len] at a1
      omega
    have hs1 : zsl μ.1 - z0 + zsz (.inr b) ≤ R.slots := by
      have a1 := g.1.2
      have a2 := C.2.2.2.2.2.2.2.2.2.2.2.2.2.2.1
      rw [zmk_sl] at a1
      omega
    refine va_new (D := D) (ci := b) (C := Cn) (T := Tn) (N := (zv_fs b).length) (fs := (List.range (zv_fs b).length).map (fun j => zfv s0 (zv_mk μ (.inr b)) μ.1.length ((zv_fs b).getD j 9) j)) C.1 C.2.1 C.2.2.2.2.1 K.2.2.1 tyn K.2.2.2.2.1 C.2.2.2.1 (C.2.2.2.2.1 _ (hw b rfl hb _ _ _ K)) (C.2.2.2.2.1 _ K.2.2.2.2.2.2.1) (C.2.2.2.2.1 _ K.2.2.2.2.2.2.2.1) C.2.2.2.2.2.2.2.2.2.2.1 hP zws_D hS (fun q9 h9 => by rw [C.2.2.2.2.2.2.2.2.2.2.2.2.1] at h9; exact Nat.le_trans (Nat.le_add_right _ _) h9) K.1 (fun j hj => ?_) hc1 hs1 hd (fun q H1 hP1 hD1 hS1 => ?_)
    · have e1 : vp_V ((List.range (zv_fs b).length).map (fun j => zfv s0 (zv_mk μ (.inr b)) μ.1.length ((zv_fs b).getD j 9) j)) j = zfv s0 (zv_mk μ (.inr b)) μ.1.length ((zv_fs b).getD j 9) j := by
        unfold vp_V
        rw [List.getD_eq_getElem?_getD, List.getElem?_map, List.getElem?_range hj]
        rfl
      rw [e1]
      rcases K.2.2.2.2.2.1 j hj with ⟨e2, e3⟩ | ⟨e2, e3⟩ | ⟨e2, e3⟩ | ⟨e2, e3⟩
      · rw [e2, e3]; simp only [zfv, zmk_I]; rfl
      · rw [e2, e3]; simp only [zfv, zmk_L]; rfl
      · rw [e2, e3]; simp only [zfv, zmk_I]; rfl
      · rw [e2]
        rcases e3 with ⟨n9, e3⟩ | ⟨n9, e3⟩ <;> (rw [e3]; simp only [zfv, zmk_P]; rfl)
    refine W_have (P := H1.size ≤ s0 + μ.1.length + 1) (fun T hT X9 => by
      have := X9.heapSize
      rw [hT, C.2.2.2.2.2.2.2.2.2.2.2.2.1] at this
      omega) (fun hsz => ?_)
    have hq := zpin hP1 hD1 hsz
    subst hq
    refine W.cs (cells' := (zv_mk μ (.inr b)).1.length - n0) (slots' := zsl (zv_mk μ (.inr b)).1 - z0) (by rw [zmk_len]; omega) (by rw [zmk_sl]; show _ = zsl μ.1 + (zv_fs b).length - z0; omega) ?_
    refine g.2 H1 locs rl (by rw [zmk_len]; omega) (by rw [zmk_sl]; omega) ?_ hS1 hl hL
    rw [zmk_ws (zw_ob zmk_at)]
    exact hP1
  · cases h
  · cases h
def zat (t : Nat) : FieldType := match t with
  | 0 => .int
  | 1 => .long
  | 2 => .byte
  | _ => .boolean
theorem zs_newarray (C : zCx X s0 ov cA D n0 z0 res m p R s mid args meth c) {y : ArrayType} (hd : decode (zv_mb m) pc = .ok (.newarray y, 2)) (hw : ∀ t, d = [t] → t < 4 → newarray.typeOf y = zat t ∧ Cond.arrayClass (zat t) ∈ zv_gw) (h : zv_op X (.newarray y) d ls st μ k = some res) (hk : ∀ ls st μ, k ls st μ = some res → zW X s0 ov cA D n0 z0 res m p l e R s mid args below meth c Q (pc + 2) ls st μ) : zW X s0 ov cA D n0 z0 res m p l e R s mid args below meth c Q pc ls st μ := by
  unfold zv_op at h
  dsimp only at h
  split at h
  rename_i n st t
  split at h
  · cases h
  · rename_i hb
    have hn : ¬ n < 0 := fun q => hb (Or.inl q)
    have hn2 : n.toNatClampNeg ≤ 100000 := Nat.not_lt.mp fun q => hb (Or.inr (Or.inl q))
    have ht : t < 4 := Nat.not_le.mp fun q => hb (Or.inr (Or.inr q))
    obtain ⟨w1, w2⟩ := hw t rfl ht
    have g := hk _ _ _ h
    refine ⟨⟨Nat.le_trans (by rw [zmk_len]; omega) g.1.1, Nat.le_trans (by rw [zmk_sl]; omega) g.1.2⟩, fun H locs rl h1 h2 hP hS hl hL => ?_⟩
    have hc1 : μ.1.length - n0 + 1 ≤ R.cells := by
      have a1 := g.1.1
      have a2 := C.2.2.2.2.2.2.2.2.2.2.2.2.2.1
      rw [zmk_len] at a1
      omega
    have hs1 : zsl μ.1 - z0 + zsz (.inl (t, n.toNatClampNeg)) ≤ R.slots := by
      have a1 := g.1.2
      have a2 := C.2.2.2.2.2.2.2.2.2.2.2.2.2.2.1
      rw [zmk_sl] at a1
      omega
    have ht4 : t = 0 ∨ t = 1 ∨ t = 2 ∨ t = 3 := by omega
    have hcb : n.toNatClampNeg * componentBytes (zat t) ≤ 536870912 := by
      have : componentBytes (zat t) ≤ 8 := by rcases ht4 with rfl | rfl | rfl | rfl <;> decide
      calc n.toNatClampNeg * componentBytes (zat t) ≤ 100000 * 8 := Nat.mul_le_mul hn2 this
        _ ≤ 536870912 := by decide
    refine va_newa (a0 := (n.toNatClampNeg, zdt s0 (zv_mk μ (.inl (t, n.toNatClampNeg))) μ.1.length t)) C.1 C.2.1 (by rw [w1]; exact C.2.2.2.2.1 _ w2) w1 C.2.2.2.2.2.2.2.2.2.2.1 hP zws_D hS (fun q9 h9 => by rw [C.2.2.2.2.2.2.2.2.2.2.2.2.1] at h9; exact Nat.le_trans (Nat.le_add_right _ _) h9) (fun cA9 => ?_) hn rfl hcb hc1 hs1 hd (fun q cA9 H1 hK1 hP1 hD1 hS1 => ?_)
    · rcases ht4 with rfl | rfl | rfl | rfl
      · simp only [zdt, zmk_I]; rfl
      · simp only [zdt, zmk_L]; rfl
      · simp only [zdt, zmk_I]; rfl
      · simp only [zdt, zmk_I]; rfl
    have ecA : cA9 = cA t := by
      have a1 : va_RA s cA9 (zat t) := (hK1.2 7 _ rfl).2
      rcases ht4 with rfl | rfl | rfl | rfl
      · exact Option.some.inj (a1.symm.trans (C.2.2.2.2.2.2.2.2.2.2.1.2 0 _ rfl).2)
      · exact Option.some.inj (a1.symm.trans (C.2.2.2.2.2.2.2.2.2.2.1.2 1 _ rfl).2)
      · exact Option.some.inj (a1.symm.trans (C.2.2.2.2.2.2.2.2.2.2.1.2 2 _ rfl).2)
      · exact Option.some.inj (a1.symm.trans (C.2.2.2.2.2.2.2.2.2.2.1.2 3 _ rfl).2)
    subst ecA
    refine W_have (P := H1.size ≤ s0 + μ.1.length + 1) (fun T hT X9 => by
      have := X9.heapSize
      rw [hT, C.2.2.2.2.2.2.2.2.2.2.2.2.1] at this
      omega) (fun hsz => ?_)
    have hq := zpin hP1 hD1 hsz
    subst hq
    refine W.cs (cells' := (zv_mk μ (.inl (t, n.toNatClampNeg))).1.length - n0) (slots' := zsl (zv_mk μ (.inl (t, n.toNatClampNeg))).1 - z0) (by rw [zmk_len]; omega) (by rw [zmk_sl]; show _ = zsl μ.1 + n.toNatClampNeg - z0; omega) ?_
    refine g.2 H1 locs rl (by rw [zmk_len]; omega) (by rw [zmk_sl]; omega) ?_ hS1 hl hL
    rw [zmk_ws (zw_ar zmk_at)]
    exact hP1
  · cases h
theorem zs_anewarray (C : zCx X s0 ov cA D n0 z0 res m p R s mid args meth c) {idx : Nat} (hd : decode (zv_mb m) pc = .ok (.anewarray idx, 3)) (hw : Cond.classLink (zv_cn (zv_mi m).2.2.1) idx "GuessedPlace$Level" ∈ zv_gw) (h : zv_op X (.anewarray idx) d ls st μ k = some res) (hk : ∀ ls st μ, k ls st μ = some res → zW X s0 ov cA D n0 z0 res m p l e R s mid args below meth c Q (pc + 3) ls st μ) : zW X s0 ov cA D n0 z0 res m p l e R s mid args below meth c Q pc ls st μ := by
  unfold zv_op at h
  dsimp only at h
  split at h
  rename_i n st
  split at h
  · cases h
  · rename_i hb
    have hn : ¬ n < 0 := fun q => hb (Or.inl q)
    have hn2 : n.toNatClampNeg ≤ 100000 := Nat.not_lt.mp fun q => hb (Or.inr q)
    have g := hk _ _ _ h
    refine ⟨⟨Nat.le_trans (by rw [zmk_len]; omega) g.1.1, Nat.le_trans (by rw [zmk_sl]; omega) g.1.2⟩, fun H locs rl h1 h2 hP hS hl hL => ?_⟩
    have hc1 : μ.1.length - n0 + 1 ≤ R.cells := by
      have a1 := g.1.1
      have a2 := C.2.2.2.2.2.2.2.2.2.2.2.2.2.1
      rw [zmk_len] at a1
      omega
    have hs1 : zsl μ.1 - z0 + zsz (.inl (4, n.toNatClampNeg)) ≤ R.slots := by
      have a1 := g.1.2
      have a2 := C.2.2.2.2.2.2.2.2.2.2.2.2.2.2.1
      rw [zmk_sl] at a1
      omega
    refine va_newq C.1 C.2.1 C.2.2.2.1 (C.2.2.2.2.1 _ hw) C.2.2.2.2.2.2.2.2.2.2.2.1.2.2.2.2.2.1 C.2.2.2.2.2.2.2.2.2.2.1 hP zws_D hS (fun q9 h9 => by rw [C.2.2.2.2.2.2.2.2.2.2.2.2.1] at h9; exact Nat.le_trans (Nat.le_add_right _ _) h9) hn rfl (by omega) hc1 hs1 hd (fun q cA9 H1 hK1 hP1 hD1 hS1 => ?_)
    have ecA : cA9 = cA 4 := by
      obtain ⟨-, -, -, -, -, a1⟩ := (hK1.2 7 _ rfl).2
      obtain ⟨-, -, -, -, -, a2⟩ := (C.2.2.2.2.2.2.2.2.2.2.1.2 4 _ rfl).2
      exact Option.some.inj (a1.symm.trans a2)
    subst ecA
    refine W_have (P := H1.size ≤ s0 + μ.1.length + 1) (fun T hT X9 => by
      have := X9.heapSize
      rw [hT, C.2.2.2.2.2.2.2.2.2.2.2.2.1] at this
      omega) (fun hsz => ?_)
    have hq := zpin hP1 hD1 hsz
    subst hq
    refine W.cs (cells' := (zv_mk μ (.inl (4, n.toNatClampNeg))).1.length - n0) (slots' := zsl (zv_mk μ (.inl (4, n.toNatClampNeg))).1 - z0) (by rw [zmk_len]; omega) (by rw [zmk_sl]; show _ = zsl μ.1 + n.toNatClampNeg - z0; omega) ?_
    refine g.2 H1 locs rl (by rw [zmk_len]; omega) (by rw [zmk_sl]; omega) ?_ hS1 hl hL
    rw [zmk_ws (e := .inl (cA 4, n.toNatClampNeg, .inr (.inr (.inr (.inr (fun _ => none)))))) (by rw [zw_ar zmk_at]; simp only [zdt, zmk_P]; rfl)]
    exact hP1
  · cases h
theorem zs_checkcast (C : zCx X s0 ov cA D n0 z0 res m p R s mid args meth c) {idx : Nat} (hd : decode (zv_mb m) pc = .ok (.checkcast idx, 3)) (hw : Cond.classLink (zv_cn (zv_mi m).2.2.1) idx "[I" ∈ zv_gw) (h : zv_op X (.checkcast idx) d ls st μ k = some res) (hk : ∀ ls st μ, k ls st μ = some res → zW X s0 ov cA D n0 z0 res m p l e R s mid args below meth c Q (pc + 3) ls st μ) : zW X s0 ov cA D n0 z0 res m p l e R s mid args below meth c Q pc ls st μ := by
  unfold zv_op at h
  dsimp only at h
  split at h
  · rename_i a st
    split at h
    · rename_i n hsh
      have g := hk _ _ _ h
      exact ⟨g.1, fun H locs rl h1 h2 hP hS hl hL => va_castA C.1 C.2.1 C.2.2.2.1 (C.2.2.2.2.1 _ hw) hP a (zws_ar hsh) (va_nm_int (C.2.2.2.2.2.2.2.2.2.2.1.2 0 _ rfl).2) hd (g.2 H locs rl h1 h2 hP hS hl hL)⟩
    · cases h
  · cases h
theorem zs_arraycopy (C : zCx X s0 ov cA D n0 z0 res m p R s mid args meth c) {idx : Nat} (hd : decode (zv_mb m) pc = .ok (.invokestatic idx, 3)) (hw : Cond.methodLink (zv_cn (zv_mi m).2.2.1) idx arraycopyName ∈ zv_gw ∧ Cond.native arraycopyName ∈ zv_gw ∧ Cond.static arraycopyName ∈ zv_gw ∧ Cond.initialized "java/lang/System" ∈ zv_gw ∧ 1 ≤ (zv_mi m).2.2.2.1 ∧ 26 ≤ (zv_mi m).2.2.2.2.1) (h : zv_op X (.invokestatic idx) d ls st μ k = some res) (hk : ∀ ls st μ, k ls st μ = some res → zW X s0 ov cA D n0 z0 res m p l e R s mid args below meth c Q (pc + 3) ls st μ) : zW X s0 ov cA D n0 z0 res m p l e R s mid args below meth c Q pc ls st μ := by
  unfold zv_op at h
  dsimp only at h
  split at h
  · rename_i n dp b sp a st
    split at h
    · rename_i na nb ha hb
      split at h
      · cases h
      · rename_i hq
        have g := hk _ _ _ h
        have q1 : ¬ sp < 0 := fun q => hq (Or.inl q)
        have q2 : ¬ dp < 0 := fun q => hq (Or.inr (Or.inl q))
        have q3 : ¬ n < 0 := fun q => hq (Or.inr (Or.inr (Or.inl q)))
        have q4 : sp.toNatClampNeg + n.toNatClampNeg ≤ na := Nat.not_lt.mp fun q => hq (Or.inr (Or.inr (Or.inr (Or.inl q))))
        have q5 : dp.toNatClampNeg + n.toNatClampNeg ≤ nb := Nat.not_lt.mp fun q => hq (Or.inr (Or.inr (Or.inr (Or.inr (Or.inl q)))))
        have q6 : (st.map fun v => v.category).sum ≤ 8 := Nat.not_lt.mp fun q => hq (Or.inr (Or.inr (Or.inr (Or.inr (Or.inr q)))))
        refine ⟨g.1, fun H locs rl h1 h2 hP hS hl hL => ?_⟩
        have e7 : nativeFrameWords "java/lang/System" "arraycopy" 5 = 7 := by decide +kernel
        refine va_copyi C.1 C.2.1 (by rw [C.2.2.1, hl.1]) C.2.2.2.1 (C.2.2.2.2.1 _ hw.1) (C.2.2.2.2.1 _ hw.2.1) (C.2.2.2.2.1 _ hw.2.2.1) (C.2.2.2.2.1 _ hw.2.2.2.1) C.2.2.2.2.2.2.2.2.2.2.1 hP zws_D hS a b 0 0 (zws_ar ha) (zws_ar hb) rfl rfl rfl q1 q2 q3 q4 q5 (fun _ _ => rfl) (Nat.le_trans hw.2.2.2.2.1 C.2.2.2.2.2.2.2.2.1) ?_ hd (fun H1 locs1 hP1 _ hS1 => g.2 H1 locs1 rl h1 h2 ?_ hS1 hl hL)
        · rw [e7, zc_cats C.2.2.2.2.2.2.2.2.2.2.2.2.2.2.2.1]
          have := C.2.2.2.2.2.2.2.2.2.1
          have := hw.2.2.2.2.2
          omega
        · rw [← zws_set (e := .inl (cA 0, nb, .inl (va_cpy (μ.2.1 a) (μ.2.1 b) sp.toNatClampNeg dp.toNatClampNeg n.toNatClampNeg))) zoff_I (by rw [zw_ar (by exact hb)]; simp [zdt, zv_wA, va_up])]
          exact hP1
    · cases h
  · cases h
theorem zs_objinit (C : zCx X s0 ov cA D n0 z0 res m p R s mid args meth c) {idx : Nat} (hd : decode (zv_mb m) pc = .ok (.invokespecial idx, 3)) (hw : Cond.methodLink (zv_cn (zv_mi m).2.2.1) idx Lib.objectInit ∈ zv_gw ∧ Cond.instanceMethod Lib.objectInit ∈ zv_gw ∧ Cond.code Lib.objectInit ⟨#[0xb1]⟩ 1 none ∈ zv_gw ∧ 1 ≤ (zv_mi m).2.2.2.1 ∧ 20 ≤ (zv_mi m).2.2.2.2.1) (h : zv_op X (.invokespecial idx) d ls st μ k = some res) (hk : ∀ ls st μ, k ls st μ = some res → zW X s0 ov cA D n0 z0 res m p l e R s mid args below meth c Q (pc + 3) ls st μ) : zW X s0 ov cA D n0 z0 res m p l e R s mid args below meth c Q pc ls st μ := by
  unfold zv_op at h
  dsimp only at h
  split at h
  · rename_i a st
    split at h
    · cases h
    · rename_i hq
      have g := hk _ _ _ h
      refine ⟨g.1, fun H locs rl h1 h2 hP hS hl hL => ?_⟩
      refine W.objInit C.1 C.2.1 C.2.2.2.1 (C.2.2.2.2.1 _ hw.1) (C.2.2.2.2.1 _ hw.2.1) (C.2.2.2.2.1 _ hw.2.2.1) rfl (by rw [C.2.2.1]; exact hl.1) rfl hd (Nat.le_trans hw.2.2.2.1 C.2.2.2.2.2.2.2.2.1) ?_ (g.2 H locs rl h1 h2 hP hS hl hL)
      show 2 * 0 + _ + 12 ≤ R.locals
      rw [zc_cats C.2.2.2.2.2.2.2.2.2.2.2.2.2.2.2.1]
      have := C.2.2.2.2.2.2.2.2.2.1
      have := hw.2.2.2.2
      omega
  · cases h
end ZS3
