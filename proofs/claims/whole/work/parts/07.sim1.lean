section ZS1
variable {X : zv_X} {s0 : Nat} {ov : Nat → Value} {cA : Nat → ClassId} {D : va_G} {n0 z0 : Nat} {res : zv_R} {m : Nat} {p : Program} {l : Launch} {e : Env} {R : Room} {s : State} {mid : MethodId} {args : Array Value} {below : List Frame} {meth : Method} {c : Code} {Q : State → Prop}
variable {pc : Nat} {d : List Nat} {ls : zv_L} {st : List Value} {μ : zv_M} {k : zv_L → List Value → zv_M → Option zv_R}
theorem zs_iadd (C : zCx X s0 ov cA D n0 z0 res m p R s mid args meth c) (hd : decode (zv_mb m) pc = .ok (.iadd, 1)) (h : zv_op X (.iadd) d ls st μ k = some res) (hk : ∀ ls st μ, k ls st μ = some res → zW X s0 ov cA D n0 z0 res m p l e R s mid args below meth c Q (pc + 1) ls st μ) : zW X s0 ov cA D n0 z0 res m p l e R s mid args below meth c Q pc ls st μ := by
  change zv_p2i st (fun x y st => k ls (.int (x + y) :: st) μ) = some res at h
  unfold zv_p2i at h
  split at h
  · rename_i y x st
    have g := hk _ _ _ h
    refine ⟨g.1, fun H locs rl h1 h2 hP hS hl hL => ?_⟩
    exact lv_iadd C.1 C.2.1 hd (g.2 H locs rl h1 h2 hP hS hl hL)
  · cases h
theorem zs_isub (C : zCx X s0 ov cA D n0 z0 res m p R s mid args meth c) (hd : decode (zv_mb m) pc = .ok (.isub, 1)) (h : zv_op X (.isub) d ls st μ k = some res) (hk : ∀ ls st μ, k ls st μ = some res → zW X s0 ov cA D n0 z0 res m p l e R s mid args below meth c Q (pc + 1) ls st μ) : zW X s0 ov cA D n0 z0 res m p l e R s mid args below meth c Q pc ls st μ := by
  change zv_p2i st (fun x y st => k ls (.int (x - y) :: st) μ) = some res at h
  unfold zv_p2i at h
  split at h
  · rename_i y x st
    have g := hk _ _ _ h
    refine ⟨g.1, fun H locs rl h1 h2 hP hS hl hL => ?_⟩
    exact lv_isub C.1 C.2.1 hd (g.2 H locs rl h1 h2 hP hS hl hL)
  · cases h
theorem zs_imul (C : zCx X s0 ov cA D n0 z0 res m p R s mid args meth c) (hd : decode (zv_mb m) pc = .ok (.imul, 1)) (h : zv_op X (.imul) d ls st μ k = some res) (hk : ∀ ls st μ, k ls st μ = some res → zW X s0 ov cA D n0 z0 res m p l e R s mid args below meth c Q (pc + 1) ls st μ) : zW X s0 ov cA D n0 z0 res m p l e R s mid args below meth c Q pc ls st μ := by
  change zv_p2i st (fun x y st => k ls (.int (x * y) :: st) μ) = some res at h
  unfold zv_p2i at h
  split at h
  · rename_i y x st
    have g := hk _ _ _ h
    refine ⟨g.1, fun H locs rl h1 h2 hP hS hl hL => ?_⟩
    exact lv_imul C.1 C.2.1 hd (g.2 H locs rl h1 h2 hP hS hl hL)
  · cases h
theorem zs_iand (C : zCx X s0 ov cA D n0 z0 res m p R s mid args meth c) (hd : decode (zv_mb m) pc = .ok (.iand, 1)) (h : zv_op X (.iand) d ls st μ k = some res) (hk : ∀ ls st μ, k ls st μ = some res → zW X s0 ov cA D n0 z0 res m p l e R s mid args below meth c Q (pc + 1) ls st μ) : zW X s0 ov cA D n0 z0 res m p l e R s mid args below meth c Q pc ls st μ := by
  change zv_p2i st (fun x y st => k ls (.int (x &&& y) :: st) μ) = some res at h
  unfold zv_p2i at h
  split at h
  · rename_i y x st
    have g := hk _ _ _ h
    refine ⟨g.1, fun H locs rl h1 h2 hP hS hl hL => ?_⟩
    exact lv_iand C.1 C.2.1 hd (g.2 H locs rl h1 h2 hP hS hl hL)
  · cases h
theorem zs_ior (C : zCx X s0 ov cA D n0 z0 res m p R s mid args meth c) (hd : decode (zv_mb m) pc = .ok (.ior, 1)) (h : zv_op X (.ior) d ls st μ k = some res) (hk : ∀ ls st μ, k ls st μ = some res → zW X s0 ov cA D n0 z0 res m p l e R s mid args below meth c Q (pc + 1) ls st μ) : zW X s0 ov cA D n0 z0 res m p l e R s mid args below meth c Q pc ls st μ := by
  change zv_p2i st (fun x y st => k ls (.int (x ||| y) :: st) μ) = some res at h
  unfold zv_p2i at h
  split at h
  · rename_i y x st
    have g := hk _ _ _ h
    refine ⟨g.1, fun H locs rl h1 h2 hP hS hl hL => ?_⟩
    exact lv_ior C.1 C.2.1 hd (g.2 H locs rl h1 h2 hP hS hl hL)
  · cases h
theorem zs_ishl (C : zCx X s0 ov cA D n0 z0 res m p R s mid args meth c) (hd : decode (zv_mb m) pc = .ok (.ishl, 1)) (h : zv_op X (.ishl) d ls st μ k = some res) (hk : ∀ ls st μ, k ls st μ = some res → zW X s0 ov cA D n0 z0 res m p l e R s mid args below meth c Q (pc + 1) ls st μ) : zW X s0 ov cA D n0 z0 res m p l e R s mid args below meth c Q pc ls st μ := by
  change zv_p2i st (fun x y st => k ls (.int (x <<< (y &&& 31)) :: st) μ) = some res at h
  unfold zv_p2i at h
  split at h
  · rename_i y x st
    have g := hk _ _ _ h
    refine ⟨g.1, fun H locs rl h1 h2 hP hS hl hL => ?_⟩
    exact lv_ishl C.1 C.2.1 hd (g.2 H locs rl h1 h2 hP hS hl hL)
  · cases h
theorem zs_ishr (C : zCx X s0 ov cA D n0 z0 res m p R s mid args meth c) (hd : decode (zv_mb m) pc = .ok (.ishr, 1)) (h : zv_op X (.ishr) d ls st μ k = some res) (hk : ∀ ls st μ, k ls st μ = some res → zW X s0 ov cA D n0 z0 res m p l e R s mid args below meth c Q (pc + 1) ls st μ) : zW X s0 ov cA D n0 z0 res m p l e R s mid args below meth c Q pc ls st μ := by
  change zv_p2i st (fun x y st => k ls (.int (x >>> (y &&& 31)) :: st) μ) = some res at h
  unfold zv_p2i at h
  split at h
  · rename_i y x st
    have g := hk _ _ _ h
    refine ⟨g.1, fun H locs rl h1 h2 hP hS hl hL => ?_⟩
    exact lv_ishr C.1 C.2.1 hd (g.2 H locs rl h1 h2 hP hS hl hL)
  · cases h
theorem zs_ladd (C : zCx X s0 ov cA D n0 z0 res m p R s mid args meth c) (hd : decode (zv_mb m) pc = .ok (.ladd, 1)) (h : zv_op X (.ladd) d ls st μ k = some res) (hk : ∀ ls st μ, k ls st μ = some res → zW X s0 ov cA D n0 z0 res m p l e R s mid args below meth c Q (pc + 1) ls st μ) : zW X s0 ov cA D n0 z0 res m p l e R s mid args below meth c Q pc ls st μ := by
  change zv_p2l st (fun x y st => k ls (.long (x + y) :: st) μ) = some res at h
  unfold zv_p2l at h
  split at h
  · rename_i y x st
    have g := hk _ _ _ h
    refine ⟨g.1, fun H locs rl h1 h2 hP hS hl hL => ?_⟩
    exact lv_ladd C.1 C.2.1 hd (g.2 H locs rl h1 h2 hP hS hl hL)
  · cases h
theorem zs_lsub (C : zCx X s0 ov cA D n0 z0 res m p R s mid args meth c) (hd : decode (zv_mb m) pc = .ok (.lsub, 1)) (h : zv_op X (.lsub) d ls st μ k = some res) (hk : ∀ ls st μ, k ls st μ = some res → zW X s0 ov cA D n0 z0 res m p l e R s mid args below meth c Q (pc + 1) ls st μ) : zW X s0 ov cA D n0 z0 res m p l e R s mid args below meth c Q pc ls st μ := by
  change zv_p2l st (fun x y st => k ls (.long (x - y) :: st) μ) = some res at h
  unfold zv_p2l at h
  split at h
  · rename_i y x st
    have g := hk _ _ _ h
    refine ⟨g.1, fun H locs rl h1 h2 hP hS hl hL => ?_⟩
    exact lv_lsub C.1 C.2.1 hd (g.2 H locs rl h1 h2 hP hS hl hL)
  · cases h
theorem zs_lmul (C : zCx X s0 ov cA D n0 z0 res m p R s mid args meth c) (hd : decode (zv_mb m) pc = .ok (.lmul, 1)) (h : zv_op X (.lmul) d ls st μ k = some res) (hk : ∀ ls st μ, k ls st μ = some res → zW X s0 ov cA D n0 z0 res m p l e R s mid args below meth c Q (pc + 1) ls st μ) : zW X s0 ov cA D n0 z0 res m p l e R s mid args below meth c Q pc ls st μ := by
  change zv_p2l st (fun x y st => k ls (.long (x * y) :: st) μ) = some res at h
  unfold zv_p2l at h
  split at h
  · rename_i y x st
    have g := hk _ _ _ h
    refine ⟨g.1, fun H locs rl h1 h2 hP hS hl hL => ?_⟩
    exact lv_lmul C.1 C.2.1 hd (g.2 H locs rl h1 h2 hP hS hl hL)
  · cases h
theorem zs_lxor (C : zCx X s0 ov cA D n0 z0 res m p R s mid args meth c) (hd : decode (zv_mb m) pc = .ok (.lxor, 1)) (h : zv_op X (.lxor) d ls st μ k = some res) (hk : ∀ ls st μ, k ls st μ = some res → zW X s0 ov cA D n0 z0 res m p l e R s mid args below meth c Q (pc + 1) ls st μ) : zW X s0 ov cA D n0 z0 res m p l e R s mid args below meth c Q pc ls st μ := by
  change zv_p2l st (fun x y st => k ls (.long (x ^^^ y) :: st) μ) = some res at h
  unfold zv_p2l at h
  split at h
  · rename_i y x st
    have g := hk _ _ _ h
    refine ⟨g.1, fun H locs rl h1 h2 hP hS hl hL => ?_⟩
    exact lv_lxor C.1 C.2.1 hd (g.2 H locs rl h1 h2 hP hS hl hL)
  · cases h
theorem zs_lcmp (C : zCx X s0 ov cA D n0 z0 res m p R s mid args meth c) (hd : decode (zv_mb m) pc = .ok (.lcmp, 1)) (h : zv_op X (.lcmp) d ls st μ k = some res) (hk : ∀ ls st μ, k ls st μ = some res → zW X s0 ov cA D n0 z0 res m p l e R s mid args below meth c Q (pc + 1) ls st μ) : zW X s0 ov cA D n0 z0 res m p l e R s mid args below meth c Q pc ls st μ := by
  change zv_p2l st (fun x y st => k ls (.int (lg_cmp x y) :: st) μ) = some res at h
  unfold zv_p2l at h
  split at h
  · rename_i y x st
    have g := hk _ _ _ h
    refine ⟨g.1, fun H locs rl h1 h2 hP hS hl hL => ?_⟩
    exact W.lcmp C.1 C.2.1 hd (g.2 H locs rl h1 h2 hP hS hl hL)
  · cases h
theorem zs_idiv (C : zCx X s0 ov cA D n0 z0 res m p R s mid args meth c) (hd : decode (zv_mb m) pc = .ok (.idiv, 1)) (h : zv_op X (.idiv) d ls st μ k = some res) (hk : ∀ ls st μ, k ls st μ = some res → zW X s0 ov cA D n0 z0 res m p l e R s mid args below meth c Q (pc + 1) ls st μ) : zW X s0 ov cA D n0 z0 res m p l e R s mid args below meth c Q pc ls st μ := by
  change zv_p2i st (fun x y st => if y = 0 then none else k ls (.int (x / y) :: st) μ) = some res at h
  unfold zv_p2i at h
  split at h
  · rename_i y x st
    dsimp only at h
    split at h
    · cases h
    rename_i hne
    have g := hk _ _ _ h
    refine ⟨g.1, fun H locs rl h1 h2 hP hS hl hL => ?_⟩
    exact lv_idiv C.1 C.2.1 hd hne (g.2 H locs rl h1 h2 hP hS hl hL)
  · cases h
theorem zs_irem (C : zCx X s0 ov cA D n0 z0 res m p R s mid args meth c) (hd : decode (zv_mb m) pc = .ok (.irem, 1)) (h : zv_op X (.irem) d ls st μ k = some res) (hk : ∀ ls st μ, k ls st μ = some res → zW X s0 ov cA D n0 z0 res m p l e R s mid args below meth c Q (pc + 1) ls st μ) : zW X s0 ov cA D n0 z0 res m p l e R s mid args below meth c Q pc ls st μ := by
  change zv_p2i st (fun x y st => if y = 0 then none else k ls (.int (x - x / y * y) :: st) μ) = some res at h
  unfold zv_p2i at h
  split at h
  · rename_i y x st
    dsimp only at h
    split at h
    · cases h
    rename_i hne
    have g := hk _ _ _ h
    refine ⟨g.1, fun H locs rl h1 h2 hP hS hl hL => ?_⟩
    exact lv_irem C.1 C.2.1 hd hne (g.2 H locs rl h1 h2 hP hS hl hL)
  · cases h
theorem zs_ldiv (C : zCx X s0 ov cA D n0 z0 res m p R s mid args meth c) (hd : decode (zv_mb m) pc = .ok (.ldiv, 1)) (h : zv_op X (.ldiv) d ls st μ k = some res) (hk : ∀ ls st μ, k ls st μ = some res → zW X s0 ov cA D n0 z0 res m p l e R s mid args below meth c Q (pc + 1) ls st μ) : zW X s0 ov cA D n0 z0 res m p l e R s mid args below meth c Q pc ls st μ := by
  change zv_p2l st (fun x y st => if y = 0 then none else k ls (.long (x / y) :: st) μ) = some res at h
  unfold zv_p2l at h
  split at h
  · rename_i y x st
    dsimp only at h
    split at h
    · cases h
    rename_i hne
    have g := hk _ _ _ h
    refine ⟨g.1, fun H locs rl h1 h2 hP hS hl hL => ?_⟩
    exact lv_ldiv C.1 C.2.1 hd hne (g.2 H locs rl h1 h2 hP hS hl hL)
  · cases h
theorem zs_lrem (C : zCx X s0 ov cA D n0 z0 res m p R s mid args meth c) (hd : decode (zv_mb m) pc = .ok (.lrem, 1)) (h : zv_op X (.lrem) d ls st μ k = some res) (hk : ∀ ls st μ, k ls st μ = some res → zW X s0 ov cA D n0 z0 res m p l e R s mid args below meth c Q (pc + 1) ls st μ) : zW X s0 ov cA D n0 z0 res m p l e R s mid args below meth c Q pc ls st μ := by
  change zv_p2l st (fun x y st => if y = 0 then none else k ls (.long (x - x / y * y) :: st) μ) = some res at h
  unfold zv_p2l at h
  split at h
  · rename_i y x st
    dsimp only at h
    split at h
    · cases h
    rename_i hne
    have g := hk _ _ _ h
    refine ⟨g.1, fun H locs rl h1 h2 hP hS hl hL => ?_⟩
    exact lv_lrem C.1 C.2.1 hd hne (g.2 H locs rl h1 h2 hP hS hl hL)
  · cases h
theorem zs_ineg (C : zCx X s0 ov cA D n0 z0 res m p R s mid args meth c) (hd : decode (zv_mb m) pc = .ok (.ineg, 1)) (h : zv_op X (.ineg) d ls st μ k = some res) (hk : ∀ ls st μ, k ls st μ = some res → zW X s0 ov cA D n0 z0 res m p l e R s mid args below meth c Q (pc + 1) ls st μ) : zW X s0 ov cA D n0 z0 res m p l e R s mid args below meth c Q pc ls st μ := by
  change zv_p1i st (fun x st => k ls (.int (-x) :: st) μ) = some res at h
  unfold zv_p1i at h
  split at h
  · rename_i x st
    have g := hk _ _ _ h
    refine ⟨g.1, fun H locs rl h1 h2 hP hS hl hL => ?_⟩
    exact lv_ineg C.1 C.2.1 hd (g.2 H locs rl h1 h2 hP hS hl hL)
  · cases h
theorem zs_i2l (C : zCx X s0 ov cA D n0 z0 res m p R s mid args meth c) (hd : decode (zv_mb m) pc = .ok (.i2l, 1)) (h : zv_op X (.i2l) d ls st μ k = some res) (hk : ∀ ls st μ, k ls st μ = some res → zW X s0 ov cA D n0 z0 res m p l e R s mid args below meth c Q (pc + 1) ls st μ) : zW X s0 ov cA D n0 z0 res m p l e R s mid args below meth c Q pc ls st μ := by
  change zv_p1i st (fun x st => k ls (.long x.toInt64 :: st) μ) = some res at h
  unfold zv_p1i at h
  split at h
  · rename_i x st
    have g := hk _ _ _ h
    refine ⟨g.1, fun H locs rl h1 h2 hP hS hl hL => ?_⟩
    exact lv_i2l C.1 C.2.1 hd rfl (g.2 H locs rl h1 h2 hP hS hl hL)
  · cases h
theorem zs_i2b (C : zCx X s0 ov cA D n0 z0 res m p R s mid args meth c) (hd : decode (zv_mb m) pc = .ok (.i2b, 1)) (h : zv_op X (.i2b) d ls st μ k = some res) (hk : ∀ ls st μ, k ls st μ = some res → zW X s0 ov cA D n0 z0 res m p l e R s mid args below meth c Q (pc + 1) ls st μ) : zW X s0 ov cA D n0 z0 res m p l e R s mid args below meth c Q pc ls st μ := by
  change zv_p1i st (fun x st => k ls (.int x.toInt8.toInt32 :: st) μ) = some res at h
  unfold zv_p1i at h
  split at h
  · rename_i x st
    have g := hk _ _ _ h
    refine ⟨g.1, fun H locs rl h1 h2 hP hS hl hL => ?_⟩
    exact lv_i2b C.1 C.2.1 hd rfl (g.2 H locs rl h1 h2 hP hS hl hL)
  · cases h
theorem zs_i2c (C : zCx X s0 ov cA D n0 z0 res m p R s mid args meth c) (hd : decode (zv_mb m) pc = .ok (.i2c, 1)) (h : zv_op X (.i2c) d ls st μ k = some res) (hk : ∀ ls st μ, k ls st μ = some res → zW X s0 ov cA D n0 z0 res m p l e R s mid args below meth c Q (pc + 1) ls st μ) : zW X s0 ov cA D n0 z0 res m p l e R s mid args below meth c Q pc ls st μ := by
  change zv_p1i st (fun x st => k ls (.int (x.toUInt32 % 65536).toInt32 :: st) μ) = some res at h
  unfold zv_p1i at h
  split at h
  · rename_i x st
    have g := hk _ _ _ h
    refine ⟨g.1, fun H locs rl h1 h2 hP hS hl hL => ?_⟩
    exact lv_i2c C.1 C.2.1 hd rfl (g.2 H locs rl h1 h2 hP hS hl hL)
  · cases h
theorem zs_lneg (C : zCx X s0 ov cA D n0 z0 res m p R s mid args meth c) (hd : decode (zv_mb m) pc = .ok (.lneg, 1)) (h : zv_op X (.lneg) d ls st μ k = some res) (hk : ∀ ls st μ, k ls st μ = some res → zW X s0 ov cA D n0 z0 res m p l e R s mid args below meth c Q (pc + 1) ls st μ) : zW X s0 ov cA D n0 z0 res m p l e R s mid args below meth c Q pc ls st μ := by
  change zv_p1l st (fun x st => k ls (.long (-x) :: st) μ) = some res at h
  unfold zv_p1l at h
  split at h
  · rename_i x st
    have g := hk _ _ _ h
    refine ⟨g.1, fun H locs rl h1 h2 hP hS hl hL => ?_⟩
    exact lv_lneg C.1 C.2.1 hd (g.2 H locs rl h1 h2 hP hS hl hL)
  · cases h
theorem zs_l2i (C : zCx X s0 ov cA D n0 z0 res m p R s mid args meth c) (hd : decode (zv_mb m) pc = .ok (.l2i, 1)) (h : zv_op X (.l2i) d ls st μ k = some res) (hk : ∀ ls st μ, k ls st μ = some res → zW X s0 ov cA D n0 z0 res m p l e R s mid args below meth c Q (pc + 1) ls st μ) : zW X s0 ov cA D n0 z0 res m p l e R s mid args below meth c Q pc ls st μ := by
  change zv_p1l st (fun x st => k ls (.int x.toInt32 :: st) μ) = some res at h
  unfold zv_p1l at h
  split at h
  · rename_i x st
    have g := hk _ _ _ h
    refine ⟨g.1, fun H locs rl h1 h2 hP hS hl hL => ?_⟩
    exact lv_l2i C.1 C.2.1 hd rfl (g.2 H locs rl h1 h2 hP hS hl hL)
  · cases h
theorem zs_iconst (C : zCx X s0 ov cA D n0 z0 res m p R s mid args meth c) {n : Int} (hd : decode (zv_mb m) pc = .ok (.iconst n, 1)) (h : zv_op X (.iconst n) d ls st μ k = some res) (hk : ∀ ls st μ, k ls st μ = some res → zW X s0 ov cA D n0 z0 res m p l e R s mid args below meth c Q (pc + 1) ls st μ) : zW X s0 ov cA D n0 z0 res m p l e R s mid args below meth c Q pc ls st μ := by
  · replace h : k ls (_ :: st) μ = some res := h
    have g := hk _ _ _ h
    refine ⟨g.1, fun H locs rl h1 h2 hP hS hl hL => ?_⟩
    exact lv_iconst C.1 C.2.1 hd rfl (g.2 H locs rl h1 h2 hP hS hl hL)
theorem zs_bipush (C : zCx X s0 ov cA D n0 z0 res m p R s mid args meth c) {n : Int} (hd : decode (zv_mb m) pc = .ok (.bipush n, 2)) (h : zv_op X (.bipush n) d ls st μ k = some res) (hk : ∀ ls st μ, k ls st μ = some res → zW X s0 ov cA D n0 z0 res m p l e R s mid args below meth c Q (pc + 2) ls st μ) : zW X s0 ov cA D n0 z0 res m p l e R s mid args below meth c Q pc ls st μ := by
  · replace h : k ls (_ :: st) μ = some res := h
    have g := hk _ _ _ h
    refine ⟨g.1, fun H locs rl h1 h2 hP hS hl hL => ?_⟩
    exact lv_bipush C.1 C.2.1 hd rfl (g.2 H locs rl h1 h2 hP hS hl hL)
theorem zs_sipush (C : zCx X s0 ov cA D n0 z0 res m p R s mid args meth c) {n : Int} (hd : decode (zv_mb m) pc = .ok (.sipush n, 3)) (h : zv_op X (.sipush n) d ls st μ k = some res) (hk : ∀ ls st μ, k ls st μ = some res → zW X s0 ov cA D n0 z0 res m p l e R s mid args below meth c Q (pc + 3) ls st μ) : zW X s0 ov cA D n0 z0 res m p l e R s mid args below meth c Q pc ls st μ := by
  · replace h : k ls (_ :: st) μ = some res := h
    have g := hk _ _ _ h
    refine ⟨g.1, fun H locs rl h1 h2 hP hS hl hL => ?_⟩
    exact lv_sipush C.1 C.2.1 hd rfl (g.2 H locs rl h1 h2 hP hS hl hL)
theorem zs_lconst (C : zCx X s0 ov cA D n0 z0 res m p R s mid args meth c) {n : Fin 2} (hd : decode (zv_mb m) pc = .ok (.lconst n, 1)) (h : zv_op X (.lconst n) d ls st μ k = some res) (hk : ∀ ls st μ, k ls st μ = some res → zW X s0 ov cA D n0 z0 res m p l e R s mid args below meth c Q (pc + 1) ls st μ) : zW X s0 ov cA D n0 z0 res m p l e R s mid args below meth c Q pc ls st μ := by
  · replace h : k ls (_ :: st) μ = some res := h
    have g := hk _ _ _ h
    refine ⟨g.1, fun H locs rl h1 h2 hP hS hl hL => ?_⟩
    exact lv_lconst C.1 C.2.1 hd rfl (g.2 H locs rl h1 h2 hP hS hl hL)
theorem zs_iload_n (C : zCx X s0 ov cA D n0 z0 res m p R s mid args meth c) {n : Fin 4} (hd : decode (zv_mb m) pc = .ok (.iload_n n, 1)) (h : zv_op X (.iload_n n) d ls st μ k = some res) (hk : ∀ ls st μ, k ls st μ = some res → zW X s0 ov cA D n0 z0 res m p l e R s mid args below meth c Q (pc + 1) ls st μ) : zW X s0 ov cA D n0 z0 res m p l e R s mid args below meth c Q pc ls st μ := by
  change zv_ldi ls n (fun x => k ls (.int x :: st) μ) = some res at h
  unfold zv_ldi at h
  split at h
  · rename_i x hx
    have g := hk _ _ _ h
    refine ⟨g.1, fun H locs rl h1 h2 hP hS hl hL => ?_⟩
    exact lv_iload_n C.1 C.2.1 hd rfl (zal_at hl hx) (g.2 H locs rl h1 h2 hP hS hl hL)
  · cases h
theorem zs_iload (C : zCx X s0 ov cA D n0 z0 res m p R s mid args meth c) {n : Nat} (hd : decode (zv_mb m) pc = .ok (.iload n, 2)) (h : zv_op X (.iload n) d ls st μ k = some res) (hk : ∀ ls st μ, k ls st μ = some res → zW X s0 ov cA D n0 z0 res m p l e R s mid args below meth c Q (pc + 2) ls st μ) : zW X s0 ov cA D n0 z0 res m p l e R s mid args below meth c Q pc ls st μ := by
  change zv_ldi ls n (fun x => k ls (.int x :: st) μ) = some res at h
  unfold zv_ldi at h
  split at h
  · rename_i x hx
    have g := hk _ _ _ h
    refine ⟨g.1, fun H locs rl h1 h2 hP hS hl hL => ?_⟩
    exact lv_iload C.1 C.2.1 hd (zal_at hl hx) (g.2 H locs rl h1 h2 hP hS hl hL)
  · cases h
theorem zs_lload_n (C : zCx X s0 ov cA D n0 z0 res m p R s mid args meth c) {n : Fin 4} (hd : decode (zv_mb m) pc = .ok (.lload_n n, 1)) (h : zv_op X (.lload_n n) d ls st μ k = some res) (hk : ∀ ls st μ, k ls st μ = some res → zW X s0 ov cA D n0 z0 res m p l e R s mid args below meth c Q (pc + 1) ls st μ) : zW X s0 ov cA D n0 z0 res m p l e R s mid args below meth c Q pc ls st μ := by
  change zv_ldl ls n (fun x => k ls (.long x :: st) μ) = some res at h
  unfold zv_ldl at h
  split at h
  · rename_i x hx
    have g := hk _ _ _ h
    refine ⟨g.1, fun H locs rl h1 h2 hP hS hl hL => ?_⟩
    exact lv_lload_n C.1 C.2.1 hd rfl (zal_at hl hx) (g.2 H locs rl h1 h2 hP hS hl hL)
  · cases h
theorem zs_lload (C : zCx X s0 ov cA D n0 z0 res m p R s mid args meth c) {n : Nat} (hd : decode (zv_mb m) pc = .ok (.lload n, 2)) (h : zv_op X (.lload n) d ls st μ k = some res) (hk : ∀ ls st μ, k ls st μ = some res → zW X s0 ov cA D n0 z0 res m p l e R s mid args below meth c Q (pc + 2) ls st μ) : zW X s0 ov cA D n0 z0 res m p l e R s mid args below meth c Q pc ls st μ := by
  change zv_ldl ls n (fun x => k ls (.long x :: st) μ) = some res at h
  unfold zv_ldl at h
  split at h
  · rename_i x hx
    have g := hk _ _ _ h
    refine ⟨g.1, fun H locs rl h1 h2 hP hS hl hL => ?_⟩
    exact lv_lload C.1 C.2.1 hd (zal_at hl hx) (g.2 H locs rl h1 h2 hP hS hl hL)
  · cases h
theorem zs_aload_n (C : zCx X s0 ov cA D n0 z0 res m p R s mid args meth c) {n : Fin 4} (hd : decode (zv_mb m) pc = .ok (.aload_n n, 1)) (h : zv_op X (.aload_n n) d ls st μ k = some res) (hk : ∀ ls st μ, k ls st μ = some res → zW X s0 ov cA D n0 z0 res m p l e R s mid args below meth c Q (pc + 1) ls st μ) : zW X s0 ov cA D n0 z0 res m p l e R s mid args below meth c Q pc ls st μ := by
  change zv_lda ls n (fun x => k ls (x :: st) μ) = some res at h
  unfold zv_lda at h
  split at h
  · rename_i x hx
    have g := hk _ _ _ h
    refine ⟨g.1, fun H locs rl h1 h2 hP hS hl hL => ?_⟩
    exact lv_aload_n C.1 C.2.1 hd rfl (zal_at hl hx) (g.2 H locs rl h1 h2 hP hS hl hL)
  · rename_i x hx
    split at h
    · cases h
    rename_i hne
    have g := hk _ _ _ h
    refine ⟨g.1, fun H locs rl h1 h2 hP hS hl hL => ?_⟩
    obtain ⟨t, ht⟩ := C.2.2.2.2.2.2.2.2.2.2.2.2.2.2.2.2 x hne
    have g1 := zal_at hl hx
    have g2 := g.2 H locs rl h1 h2 hP hS hl hL
    simp only [zc, ht, List.map_cons] at g1 g2
    exact lv_aload_n C.1 C.2.1 hd rfl g1 g2
  · cases h
theorem zs_aload (C : zCx X s0 ov cA D n0 z0 res m p R s mid args meth c) {n : Nat} (hd : decode (zv_mb m) pc = .ok (.aload n, 2)) (h : zv_op X (.aload n) d ls st μ k = some res) (hk : ∀ ls st μ, k ls st μ = some res → zW X s0 ov cA D n0 z0 res m p l e R s mid args below meth c Q (pc + 2) ls st μ) : zW X s0 ov cA D n0 z0 res m p l e R s mid args below meth c Q pc ls st μ := by
  change zv_lda ls n (fun x => k ls (x :: st) μ) = some res at h
  unfold zv_lda at h
  split at h
  · rename_i x hx
    have g := hk _ _ _ h
    refine ⟨g.1, fun H locs rl h1 h2 hP hS hl hL => ?_⟩
    exact lv_aload C.1 C.2.1 hd (zal_at hl hx) (g.2 H locs rl h1 h2 hP hS hl hL)
  · rename_i x hx
    split at h
    · cases h
    rename_i hne
    have g := hk _ _ _ h
    refine ⟨g.1, fun H locs rl h1 h2 hP hS hl hL => ?_⟩
    obtain ⟨t, ht⟩ := C.2.2.2.2.2.2.2.2.2.2.2.2.2.2.2.2 x hne
    have g1 := zal_at hl hx
    have g2 := g.2 H locs rl h1 h2 hP hS hl hL
    simp only [zc, ht, List.map_cons] at g1 g2
    exact lv_aload C.1 C.2.1 hd g1 g2
  · cases h
theorem zst_mem {ls : zv_L} {i j : Nat} {w v : Value} (hi : i < ls.length) (h : (zv_st ls i w)[j]? = some (some v)) : (j = i ∧ v = w) ∨ (j ≠ i ∧ ls[j]? = some (some v) ∧ ¬ (j + 1 = i ∧ v.category = 2)) := by
  unfold zv_st at h
  have hlen : (zv_clr ls i).length = ls.length := by
    unfold zv_clr
    split
    · rfl
    · split
      · split
        · simp
        · rfl
      · rfl
  by_cases hj : j = i
  · subst hj
    rw [List.getElem?_set_self (by rw [hlen]; exact hi)] at h
    exact Or.inl ⟨rfl, (Option.some.inj (Option.some.inj h)).symm⟩
  · rw [List.getElem?_set_ne (Ne.symm hj)] at h
    refine Or.inr ⟨hj, ?_⟩
    unfold zv_clr at h
    split at h
    · exact ⟨h, fun q => by omega⟩
    · rename_i i'
      split at h
      · rename_i u hu
        split at h
        · rename_i hc
          by_cases hk : i' = j
          · subst hk
            rw [List.getElem?_set_self (by omega)] at h
            cases h
          · rw [List.getElem?_set_ne hk] at h
            exact ⟨h, fun q => hk (by omega)⟩
        · rename_i hc
          refine ⟨h, fun q => ?_⟩
          have e : j = i' := by omega
          subst e
          rw [hu] at h
          cases h
          exact hc q.2
      · rename_i hu
        refine ⟨h, fun q => ?_⟩
        have e : j = i' := by omega
        subst e
        exact hu v h
theorem zst_len {ls : zv_L} {i : Nat} {w : Value} : (zv_st ls i w).length = ls.length := by
  unfold zv_st zv_clr
  rw [List.length_set]
  split
  · rfl
  · split
    · split
      · simp
      · rfl
    · rfl
theorem zst2_mem {ls : zv_L} {i j : Nat} {w v : Value} (hi : i + 1 < ls.length) (h : (zv_st2 ls i w)[j]? = some (some v)) : (j = i ∧ v = w) ∨ (j ≠ i ∧ j ≠ i + 1 ∧ ls[j]? = some (some v) ∧ ¬ (j + 1 = i ∧ v.category = 2)) := by
  have hlen : (zv_st ls i w).length = ls.length := zst_len
  have e : zv_st2 ls i w = (zv_st ls i w).set (i + 1) none := rfl
  rw [e] at h
  by_cases hj : j = i + 1
  · subst hj
    rw [List.getElem?_set_self (by omega)] at h
    cases h
  · rw [List.getElem?_set_ne (Ne.symm hj)] at h
    rcases zst_mem (by omega) h with q | q
    · exact Or.inl q
    · exact Or.inr ⟨q.1, hj, q.2.1, q.2.2⟩
theorem zst2_len {ls : zv_L} {i : Nat} {w : Value} : (zv_st2 ls i w).length = ls.length := by
  have e : zv_st2 ls i w = (zv_st ls i w).set (i + 1) none := rfl
  rw [e, List.length_set, zst_len]
theorem zst_has {s0 : Nat} {ov : Nat → Value} (ho : ∀ i, (ov i).category = 1) {ls : zv_L} {i nL : Nat} {w : Value} {rl : Array Slot} (hi : i < ls.length) (h : lv_has rl nL ((i, zc s0 ov w) :: (zal s0 ov ls).filter (fun q => !(q.1 == i) && !(q.1 + 1 == i && q.2.category == 2)))) : lv_has rl nL (zal s0 ov (zv_st ls i w)) := by
  refine zal_sub h (fun j v hv => ?_)
  rcases zst_mem hi hv with ⟨rfl, rfl⟩ | ⟨q1, q2, q3⟩
  · exact List.mem_cons_self
  · refine List.mem_cons_of_mem _ (List.mem_filter.mpr ⟨zal_mem.mpr ⟨v, q2, rfl⟩, ?_⟩)
    simp only [zc_cat ho]
    simp only [Bool.and_eq_true, Bool.not_eq_true', beq_eq_false_iff_ne, Bool.and_eq_false_iff]
    refine ⟨q1, ?_⟩
    by_cases h9 : j + 1 = i
    · exact Or.inr (fun q => q3 ⟨h9, q⟩)
    · exact Or.inl h9
theorem zst2_has {s0 : Nat} {ov : Nat → Value} (ho : ∀ i, (ov i).category = 1) {ls : zv_L} {i nL : Nat} {w : Value} {rl : Array Slot} (hi : i + 1 < ls.length) (h : lv_has rl nL ((i, zc s0 ov w) :: (zal s0 ov ls).filter (fun q => !(q.1 == i) && (!(q.1 == i + 1) && !(q.1 + 1 == i && q.2.category == 2))))) : lv_has rl nL (zal s0 ov (zv_st2 ls i w)) := by
  refine zal_sub h (fun j v hv => ?_)
  rcases zst2_mem hi hv with ⟨rfl, rfl⟩ | ⟨q1, q0, q2, q3⟩
  · exact List.mem_cons_self
  · refine List.mem_cons_of_mem _ (List.mem_filter.mpr ⟨zal_mem.mpr ⟨v, q2, rfl⟩, ?_⟩)
    simp only [zc_cat ho]
    simp only [Bool.and_eq_true, Bool.not_eq_true', beq_eq_false_iff_ne, Bool.and_eq_false_iff]
    refine ⟨q1, q0, ?_⟩
    by_cases h9 : j + 1 = i
    · exact Or.inr (fun q => q3 ⟨h9, q⟩)
    · exact Or.inl h9
theorem zs_istore_n (C : zCx X s0 ov cA D n0 z0 res m p R s mid args meth c) {n : Fin 4} (hd : decode (zv_mb m) pc = .ok (.istore_n n, 1)) (h : zv_op X (.istore_n n) d ls st μ k = some res) (hk : ∀ ls st μ, k ls st μ = some res → zW X s0 ov cA D n0 z0 res m p l e R s mid args below meth c Q (pc + 1) ls st μ) : zW X s0 ov cA D n0 z0 res m p l e R s mid args below meth c Q pc ls st μ := by
  change zv_p1i st (fun x st => zv_sto ls n (.int x) (fun ls => k ls st μ)) = some res at h
  unfold zv_p1i at h
  split at h
  · rename_i x st
    dsimp only at h
    unfold zv_sto at h
    split at h
    · rename_i hn
      have g := hk _ _ _ h
      refine ⟨g.1, fun H locs rl h1 h2 hP hS hl hL => ?_⟩
      exact lv_istore_n C.1 C.2.1 hd rfl hl (by rw [← hL]; exact hn) rfl (fun rl' hl' => g.2 H locs rl' h1 h2 hP hS (zst_has C.2.2.2.2.2.2.2.2.2.2.2.2.2.2.2.1 hn hl') (by rw [zst_len]; exact hL))
    · cases h
  · cases h
theorem zs_istore (C : zCx X s0 ov cA D n0 z0 res m p R s mid args meth c) {n : Nat} (hd : decode (zv_mb m) pc = .ok (.istore n, 2)) (h : zv_op X (.istore n) d ls st μ k = some res) (hk : ∀ ls st μ, k ls st μ = some res → zW X s0 ov cA D n0 z0 res m p l e R s mid args below meth c Q (pc + 2) ls st μ) : zW X s0 ov cA D n0 z0 res m p l e R s mid args below meth c Q pc ls st μ := by
  change zv_p1i st (fun x st => zv_sto ls n (.int x) (fun ls => k ls st μ)) = some res at h
  unfold zv_p1i at h
  split at h
  · rename_i x st
    dsimp only at h
    unfold zv_sto at h
    split at h
    · rename_i hn
      have g := hk _ _ _ h
      refine ⟨g.1, fun H locs rl h1 h2 hP hS hl hL => ?_⟩
      exact lv_istore C.1 C.2.1 hd hl (by rw [← hL]; exact hn) rfl (fun rl' hl' => g.2 H locs rl' h1 h2 hP hS (zst_has C.2.2.2.2.2.2.2.2.2.2.2.2.2.2.2.1 hn hl') (by rw [zst_len]; exact hL))
    · cases h
  · cases h
theorem zs_lstore_n (C : zCx X s0 ov cA D n0 z0 res m p R s mid args meth c) {n : Fin 4} (hd : decode (zv_mb m) pc = .ok (.lstore_n n, 1)) (h : zv_op X (.lstore_n n) d ls st μ k = some res) (hk : ∀ ls st μ, k ls st μ = some res → zW X s0 ov cA D n0 z0 res m p l e R s mid args below meth c Q (pc + 1) ls st μ) : zW X s0 ov cA D n0 z0 res m p l e R s mid args below meth c Q pc ls st μ := by
  change zv_p1l st (fun x st => zv_sto2 ls n (.long x) (fun ls => k ls st μ)) = some res at h
  unfold zv_p1l at h
  split at h
  · rename_i x st
    dsimp only at h
    unfold zv_sto2 at h
    split at h
    · rename_i hn
      have g := hk _ _ _ h
      refine ⟨g.1, fun H locs rl h1 h2 hP hS hl hL => ?_⟩
      exact lv_lstore_n C.1 C.2.1 hd rfl hl (by rw [← hL]; exact hn) rfl (fun rl' hl' => g.2 H locs rl' h1 h2 hP hS (zst2_has C.2.2.2.2.2.2.2.2.2.2.2.2.2.2.2.1 hn hl') (by rw [zst2_len]; exact hL))
    · cases h
  · cases h
theorem zs_lstore (C : zCx X s0 ov cA D n0 z0 res m p R s mid args meth c) {n : Nat} (hd : decode (zv_mb m) pc = .ok (.lstore n, 2)) (h : zv_op X (.lstore n) d ls st μ k = some res) (hk : ∀ ls st μ, k ls st μ = some res → zW X s0 ov cA D n0 z0 res m p l e R s mid args below meth c Q (pc + 2) ls st μ) : zW X s0 ov cA D n0 z0 res m p l e R s mid args below meth c Q pc ls st μ := by
  change zv_p1l st (fun x st => zv_sto2 ls n (.long x) (fun ls => k ls st μ)) = some res at h
  unfold zv_p1l at h
  split at h
  · rename_i x st
    dsimp only at h
    unfold zv_sto2 at h
    split at h
    · rename_i hn
      have g := hk _ _ _ h
      refine ⟨g.1, fun H locs rl h1 h2 hP hS hl hL => ?_⟩
      exact lv_lstore C.1 C.2.1 hd hl (by rw [← hL]; exact hn) rfl (fun rl' hl' => g.2 H locs rl' h1 h2 hP hS (zst2_has C.2.2.2.2.2.2.2.2.2.2.2.2.2.2.2.1 hn hl') (by rw [zst2_len]; exact hL))
    · cases h
  · cases h
theorem zs_astore_n (C : zCx X s0 ov cA D n0 z0 res m p R s mid args meth c) {n : Fin 4} (hd : decode (zv_mb m) pc = .ok (.astore_n n, 1)) (h : zv_op X (.astore_n n) d ls st μ k = some res) (hk : ∀ ls st μ, k ls st μ = some res → zW X s0 ov cA D n0 z0 res m p l e R s mid args below meth c Q (pc + 1) ls st μ) : zW X s0 ov cA D n0 z0 res m p l e R s mid args below meth c Q pc ls st μ := by
  change zv_p1a st (fun x st => zv_sto ls n x (fun ls => k ls st μ)) = some res at h
  unfold zv_p1a at h
  split at h
  · rename_i x st
    dsimp only at h
    unfold zv_sto at h
    split at h
    · rename_i hn
      have g := hk _ _ _ h
      refine ⟨g.1, fun H locs rl h1 h2 hP hS hl hL => ?_⟩
      exact lv_astore_n C.1 C.2.1 hd rfl hl (by rw [← hL]; exact hn) rfl (fun rl' hl' => g.2 H locs rl' h1 h2 hP hS (zst_has C.2.2.2.2.2.2.2.2.2.2.2.2.2.2.2.1 hn hl') (by rw [zst_len]; exact hL))
    · cases h
  · rename_i x st
    split at h
    · cases h
    rename_i hne
    dsimp only at h
    unfold zv_sto at h
    split at h
    · rename_i hn
      have g := hk _ _ _ h
      refine ⟨g.1, fun H locs rl h1 h2 hP hS hl hL => ?_⟩
      obtain ⟨t, ht⟩ := C.2.2.2.2.2.2.2.2.2.2.2.2.2.2.2.2 x hne
      have e : zc s0 ov (.retAddr x) = .ref t := ht
      rw [List.map_cons, e]
      refine lv_astore_n C.1 C.2.1 hd rfl hl (by rw [← hL]; exact hn) rfl (fun rl' hl' => g.2 H locs rl' h1 h2 hP hS (zst_has C.2.2.2.2.2.2.2.2.2.2.2.2.2.2.2.1 hn ?_) (by rw [zst_len]; exact hL))
      rw [e]
      exact hl'
    · cases h
  · cases h
theorem zs_astore (C : zCx X s0 ov cA D n0 z0 res m p R s mid args meth c) {n : Nat} (hd : decode (zv_mb m) pc = .ok (.astore n, 2)) (h : zv_op X (.astore n) d ls st μ k = some res) (hk : ∀ ls st μ, k ls st μ = some res → zW X s0 ov cA D n0 z0 res m p l e R s mid args below meth c Q (pc + 2) ls st μ) : zW X s0 ov cA D n0 z0 res m p l e R s mid args below meth c Q pc ls st μ := by
  change zv_p1a st (fun x st => zv_sto ls n x (fun ls => k ls st μ)) = some res at h
  unfold zv_p1a at h
  split at h
  · rename_i x st
    dsimp only at h
    unfold zv_sto at h
    split at h
    · rename_i hn
      have g := hk _ _ _ h
      refine ⟨g.1, fun H locs rl h1 h2 hP hS hl hL => ?_⟩
      exact lv_astore C.1 C.2.1 hd hl (by rw [← hL]; exact hn) rfl (fun rl' hl' => g.2 H locs rl' h1 h2 hP hS (zst_has C.2.2.2.2.2.2.2.2.2.2.2.2.2.2.2.1 hn hl') (by rw [zst_len]; exact hL))
    · cases h
  · rename_i x st
    split at h
    · cases h
    rename_i hne
    dsimp only at h
    unfold zv_sto at h
    split at h
    · rename_i hn
      have g := hk _ _ _ h
      refine ⟨g.1, fun H locs rl h1 h2 hP hS hl hL => ?_⟩
      obtain ⟨t, ht⟩ := C.2.2.2.2.2.2.2.2.2.2.2.2.2.2.2.2 x hne
      have e : zc s0 ov (.retAddr x) = .ref t := ht
      rw [List.map_cons, e]
      refine lv_astore C.1 C.2.1 hd hl (by rw [← hL]; exact hn) rfl (fun rl' hl' => g.2 H locs rl' h1 h2 hP hS (zst_has C.2.2.2.2.2.2.2.2.2.2.2.2.2.2.2.1 hn ?_) (by rw [zst_len]; exact hL))
      rw [e]
      exact hl'
    · cases h
  · cases h
theorem zs_iinc (C : zCx X s0 ov cA D n0 z0 res m p R s mid args meth c) {n : Nat} {b : Int} (hd : decode (zv_mb m) pc = .ok (.iinc n b, 3)) (h : zv_op X (.iinc n b) d ls st μ k = some res) (hk : ∀ ls st μ, k ls st μ = some res → zW X s0 ov cA D n0 z0 res m p l e R s mid args below meth c Q (pc + 3) ls st μ) : zW X s0 ov cA D n0 z0 res m p l e R s mid args below meth c Q pc ls st μ := by
  change zv_ldi ls n (fun x => zv_sto ls n (.int (x + Int32.ofInt b)) (fun ls => k ls st μ)) = some res at h
  unfold zv_ldi at h
  split at h
  · rename_i x hx
    dsimp only at h
    unfold zv_sto at h
    split at h
    · rename_i hn
      have g := hk _ _ _ h
      refine ⟨g.1, fun H locs rl h1 h2 hP hS hl hL => ?_⟩
      obtain ⟨q, hq⟩ := List.getElem?_of_mem (zal_mem.mpr ⟨_, hx, rfl⟩ : (n, zc s0 ov (.int x)) ∈ zal s0 ov ls)
      exact lv_iinc C.1 C.2.1 hd hl hq rfl (by rw [← hL]; exact hn) rfl (fun rl' hl' => g.2 H locs rl' h1 h2 hP hS (zst_has C.2.2.2.2.2.2.2.2.2.2.2.2.2.2.2.1 hn hl') (by rw [zst_len]; exact hL))
    · cases h
  · cases h
theorem zs_dup (C : zCx X s0 ov cA D n0 z0 res m p R s mid args meth c) (hd : decode (zv_mb m) pc = .ok (.dup, 1)) (h : zv_op X (.dup) d ls st μ k = some res) (hk : ∀ ls st μ, k ls st μ = some res → zW X s0 ov cA D n0 z0 res m p l e R s mid args below meth c Q (pc + 1) ls st μ) : zW X s0 ov cA D n0 z0 res m p l e R s mid args below meth c Q pc ls st μ := by
  unfold zv_op at h
  dsimp only at h
  split at h
  · rename_i v st
    split at h
    · rename_i hc
      have g := hk _ _ _ h
      refine ⟨g.1, fun H locs rl h1 h2 hP hS hl hL => ?_⟩
      exact lv_dup C.1 C.2.1 hd (by rw [zc_cat C.2.2.2.2.2.2.2.2.2.2.2.2.2.2.2.1]; exact hc) (g.2 H locs rl h1 h2 hP hS hl hL)
    · cases h
  · cases h
theorem zs_pop (C : zCx X s0 ov cA D n0 z0 res m p R s mid args meth c) (hd : decode (zv_mb m) pc = .ok (.pop, 1)) (h : zv_op X (.pop) d ls st μ k = some res) (hk : ∀ ls st μ, k ls st μ = some res → zW X s0 ov cA D n0 z0 res m p l e R s mid args below meth c Q (pc + 1) ls st μ) : zW X s0 ov cA D n0 z0 res m p l e R s mid args below meth c Q pc ls st μ := by
  unfold zv_op at h
  dsimp only at h
  split at h
  · rename_i v st
    split at h
    · rename_i hc
      have g := hk _ _ _ h
      refine ⟨g.1, fun H locs rl h1 h2 hP hS hl hL => ?_⟩
      exact lv_pop C.1 C.2.1 hd (by rw [zc_cat C.2.2.2.2.2.2.2.2.2.2.2.2.2.2.2.1]; exact hc) (g.2 H locs rl h1 h2 hP hS hl hL)
    · cases h
  · cases h
theorem zs_dup2 (C : zCx X s0 ov cA D n0 z0 res m p R s mid args meth c) (hd : decode (zv_mb m) pc = .ok (.dup2, 1)) (h : zv_op X (.dup2) d ls st μ k = some res) (hk : ∀ ls st μ, k ls st μ = some res → zW X s0 ov cA D n0 z0 res m p l e R s mid args below meth c Q (pc + 1) ls st μ) : zW X s0 ov cA D n0 z0 res m p l e R s mid args below meth c Q pc ls st μ := by
  unfold zv_op at h
  dsimp only at h
  split at h
  · rename_i v w st
    split at h
    · rename_i hc
      split at h
      · rename_i hc2
        have g := hk _ _ _ h
        refine ⟨g.1, fun H locs rl h1 h2 hP hS hl hL => ?_⟩
        exact lv_dup2_11 C.1 C.2.1 hd (by rw [zc_cat C.2.2.2.2.2.2.2.2.2.2.2.2.2.2.2.1]; exact hc) (by rw [zc_cat C.2.2.2.2.2.2.2.2.2.2.2.2.2.2.2.1]; exact hc2) (g.2 H locs rl h1 h2 hP hS hl hL)
      · cases h
    · cases h
  · cases h
end ZS1
