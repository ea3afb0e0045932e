/-! THE ABSTRACT MACHINE: the same instructions over a small memory. Cells are numbered in the order in which they are made; a cell is an array (kind, length) or an object (number of its kind in vwCl); three memories: ints, longs, references. '.retAddr i' stands for what was there before the law: 0 the script, 1 .. 3 static rows, 20 .. texts, 50 .. their bytes. -/
abbrev zv_M : Type := List ((Nat × Nat) ⊕ Nat) × (Nat → Nat → Int32) × (Nat → Nat → Int64) × (Nat → Nat → Option Nat)
abbrev zv_L : Type := List (Option Value)
abbrev zv_I : Type := Nat × Instr × List Nat
abbrev zv_R : Type := Option Value × zv_M
abbrev zv_X : Type := Nat × (Nat → Int32)
abbrev zv_C : Type := Nat × Nat × zv_L × List Value × zv_M
def zv_lst (l : List Int32) : Nat × (Nat → Int32) := (l.length, fun j => l.getD j 0)
def zv_old (X : zv_X) (i : Nat) : Nat × (Nat → Int32) := match i with
  | 0 => X
  | 1 => zv_lst [1, 1, 4, 8, 8, 64, 2, 0]
  | 2 => zv_lst [0, 0, 0, 1, 2, 8, 1, 0]
  | 3 => zv_lst [20, 20, 50, 99, 99, 512, 4, 99999]
  | 50 => zv_lst [107, 101, 121]
  | 51 => zv_lst [114, 117, 110]
  | 52 => zv_lst [100, 114, 111, 112]
  | 53 => zv_lst [115, 108, 97, 99, 107]
  | 54 => zv_lst [117, 112, 112, 101, 114]
  | 55 => zv_lst [114, 111, 111, 109]
  | _ => (0, fun _ => 0)
section ZVM
variable {α : Type}
def zv_ldi (ls : zv_L) (i : Nat) (k : Int32 → Option α) : Option α := match ls[i]? with
  | some (some (.int x)) => k x
  | _ => none
def zv_ldl (ls : zv_L) (i : Nat) (k : Int64 → Option α) : Option α := match ls[i]? with
  | some (some (.long x)) => k x
  | _ => none
def zv_lda (ls : zv_L) (i : Nat) (k : Value → Option α) : Option α := match ls[i]? with
  | some (some (.ref a)) => k (.ref a)
  | some (some (.retAddr a)) => if a = 90 then none else k (.retAddr a)
  | _ => none
def zv_clr (ls : zv_L) (i : Nat) : zv_L := match i with
  | 0 => ls
  | j + 1 => match ls[j]? with
    | some (some w) => if w.category = 2 then ls.set j none else ls
    | _ => ls
def zv_st (ls : zv_L) (i : Nat) (v : Value) : zv_L := (zv_clr ls i).set i (some v)
def zv_st2 (ls : zv_L) (i : Nat) (v : Value) : zv_L := ((zv_clr ls i).set i (some v)).set (i + 1) none
def zv_sto (ls : zv_L) (i : Nat) (v : Value) (k : zv_L → Option α) : Option α := if i < ls.length then k (zv_st ls i v) else none
def zv_sto2 (ls : zv_L) (i : Nat) (v : Value) (k : zv_L → Option α) : Option α := if i + 1 < ls.length then k (zv_st2 ls i v) else none
def zv_p1i (st : List Value) (k : Int32 → List Value → Option α) : Option α := match st with
  | .int x :: st => k x st
  | _ => none
def zv_p2i (st : List Value) (k : Int32 → Int32 → List Value → Option α) : Option α := match st with
  | .int y :: .int x :: st => k x y st
  | _ => none
def zv_p1l (st : List Value) (k : Int64 → List Value → Option α) : Option α := match st with
  | .long x :: st => k x st
  | _ => none
def zv_p2l (st : List Value) (k : Int64 → Int64 → List Value → Option α) : Option α := match st with
  | .long y :: .long x :: st => k x y st
  | _ => none
def zv_p1a (st : List Value) (k : Value → List Value → Option α) : Option α := match st with
  | .ref a :: st => k (.ref a) st
  | .retAddr a :: st => if a = 90 then none else k (.retAddr a) st
  | _ => none
def zv_ldc (d : List Nat) (k : Value → Option α) : Option α := match d with
  | [0, v] => k (.int (Int32.ofNat v))
  | [1, i] => k (.retAddr i)
  | _ => none
/-- the place i of the array a of kind t -/
def zv_ix (μ : zv_M) (t a : Nat) (i : Int32) (k : Nat → Option α) : Option α := match μ.1[a]? with
  | some (.inl (t', n)) => if t' = t then (if i < 0 ∨ n ≤ i.toNatClampNeg then none else k i.toNatClampNeg) else none
  | _ => none
def zv_iq (μ : zv_M) (a : Nat) (i : Int32) (k : Nat → Option α) : Option α := match μ.1[a]? with
  | some (.inl (t, n)) => if t < 4 ∨ 7 ≤ t then none else (if i < 0 ∨ n ≤ i.toNatClampNeg then none else k i.toNatClampNeg)
  | _ => none
def zv_ox (X : zv_X) (o : Nat) (i : Int32) (k : Int32 → Option α) : Option α := if i < 0 ∨ (zv_old X o).1 ≤ i.toNatClampNeg then none else k ((zv_old X o).2 i.toNatClampNeg)
/-- the object a of kind c -/
def zv_ob (μ : zv_M) (c a : Nat) (r : Option α) : Option α := match μ.1[a]? with
  | some (.inr c') => if c' = c then r else none
  | _ => none
def zv_wI (μ : zv_M) (a j : Nat) (x : Int32) : zv_M := (μ.1, va_up μ.2.1 a (upd (μ.2.1 a) j x), μ.2.2.1, μ.2.2.2)
def zv_wL (μ : zv_M) (a j : Nat) (x : Int64) : zv_M := (μ.1, μ.2.1, va_up μ.2.2.1 a (vp_updL (μ.2.2.1 a) j x), μ.2.2.2)
def zv_wP (μ : zv_M) (a j : Nat) (x : Option Nat) : zv_M := (μ.1, μ.2.1, μ.2.2.1, va_up μ.2.2.2 a (va_up (μ.2.2.2 a) j x))
def zv_wA (μ : zv_M) (a : Nat) (f : Nat → Int32) : zv_M := (μ.1, va_up μ.2.1 a f, μ.2.2.1, μ.2.2.2)
def zv_mk (μ : zv_M) (sh : (Nat × Nat) ⊕ Nat) : zv_M := (μ.1 ++ [sh], va_up μ.2.1 μ.1.length (fun _ => 0), va_up μ.2.2.1 μ.1.length (fun _ => 0), va_up μ.2.2.2 μ.1.length (fun _ => none))
def zv_mks (sh : (Nat × Nat) ⊕ Nat) : Nat → zv_M → zv_M
  | 0, μ => μ
  | n + 1, μ => zv_mks sh n (zv_mk μ sh)
def zv_get (d : List Nat) (st : List Value) (μ : zv_M) (k : Value → List Value → Option α) : Option α := match d, st with
  | [c, j, t], .ref a :: st => zv_ob μ c a (match t with
    | 0 => k (.int (μ.2.1 a j)) st
    | 1 => k (.long (μ.2.2.1 a j)) st
    | 2 => (match μ.2.2.2 a j with
      | some p => k (.ref p) st
      | none => none)
    | 3 => k (.int (μ.2.1 a j)) st
    | _ => none)
  | [_, _, t], .retAddr i :: st => if 20 ≤ i ∧ i < 27 then (match t with
    | 8 => k (.retAddr (i + 30)) st
    | 9 => k (.int 0) st
    | _ => none) else none
  | _, _ => none
def zv_put (d : List Nat) (st : List Value) (μ : zv_M) (k : List Value → zv_M → Option α) : Option α := match d, st with
  | [c, j, t], .int x :: .ref a :: st => zv_ob μ c a (match t with
    | 0 => k st (zv_wI μ a j x)
    | 3 => if x = 0 ∨ x = 1 then k st (zv_wI μ a j x) else none
    | _ => none)
  | [c, j, t], .long x :: .ref a :: st => zv_ob μ c a (match t with
    | 1 => k st (zv_wL μ a j x)
    | _ => none)
  | [c, j, t], .ref p :: .ref a :: st => zv_ob μ c a (match t with
    | 2 => k st (zv_wP μ a j (some p))
    | _ => none)
  | _, _ => none
def zv_nar (t : Nat) (x : Int32) : Int32 := if t = 2 then vp_nar .byte x else vp_nar .boolean x
/-- an instruction that neither jumps nor calls nor returns -/
def zv_op (X : zv_X) (i : Instr) (d : List Nat) (ls : zv_L) (st : List Value) (μ : zv_M) (k : zv_L → List Value → zv_M → Option α) : Option α :=
  match i with
  | .iconst n => k ls (.int (Int32.ofInt n) :: st) μ
  | .bipush n => k ls (.int (Int8.ofInt n).toInt32 :: st) μ
  | .sipush n => k ls (.int (Int16.ofInt n).toInt32 :: st) μ
  | .lconst n => k ls (.long (Int64.ofNat n) :: st) μ
  | .ldc _ => zv_ldc d (fun v => k ls (v :: st) μ)
  | .ldc_w _ => zv_ldc d (fun v => k ls (v :: st) μ)
  | .ldc2_w _ => (match d with
    | [v] => k ls (.long (Int64.ofNat v) :: st) μ
    | _ => none)
  | .iload_n n => zv_ldi ls n (fun x => k ls (.int x :: st) μ)
  | .iload n => zv_ldi ls n (fun x => k ls (.int x :: st) μ)
  | .lload_n n => zv_ldl ls n (fun x => k ls (.long x :: st) μ)
  | .lload n => zv_ldl ls n (fun x => k ls (.long x :: st) μ)
  | .aload_n n => zv_lda ls n (fun x => k ls (x :: st) μ)
  | .aload n => zv_lda ls n (fun x => k ls (x :: st) μ)
  | .istore_n n => zv_p1i st (fun x st => zv_sto ls n (.int x) (fun ls => k ls st μ))
  | .istore n => zv_p1i st (fun x st => zv_sto ls n (.int x) (fun ls => k ls st μ))
  | .lstore_n n => zv_p1l st (fun x st => zv_sto2 ls n (.long x) (fun ls => k ls st μ))
  | .lstore n => zv_p1l st (fun x st => zv_sto2 ls n (.long x) (fun ls => k ls st μ))
  | .astore_n n => zv_p1a st (fun x st => zv_sto ls n x (fun ls => k ls st μ))
  | .astore n => zv_p1a st (fun x st => zv_sto ls n x (fun ls => k ls st μ))
  | .iinc n c => zv_ldi ls n (fun x => zv_sto ls n (.int (x + Int32.ofInt c)) (fun ls => k ls st μ))
  | .iadd => zv_p2i st (fun x y st => k ls (.int (x + y) :: st) μ)
  | .isub => zv_p2i st (fun x y st => k ls (.int (x - y) :: st) μ)
  | .imul => zv_p2i st (fun x y st => k ls (.int (x * y) :: st) μ)
  | .iand => zv_p2i st (fun x y st => k ls (.int (x &&& y) :: st) μ)
  | .ior => zv_p2i st (fun x y st => k ls (.int (x ||| y) :: st) μ)
  | .idiv => zv_p2i st (fun x y st => if y = 0 then none else k ls (.int (x / y) :: st) μ)
  | .irem => zv_p2i st (fun x y st => if y = 0 then none else k ls (.int (x - x / y * y) :: st) μ)
  | .ishl => zv_p2i st (fun x y st => k ls (.int (x <<< (y &&& 31)) :: st) μ)
  | .ishr => zv_p2i st (fun x y st => k ls (.int (x >>> (y &&& 31)) :: st) μ)
  | .ineg => zv_p1i st (fun x st => k ls (.int (-x) :: st) μ)
  | .ladd => zv_p2l st (fun x y st => k ls (.long (x + y) :: st) μ)
  | .lsub => zv_p2l st (fun x y st => k ls (.long (x - y) :: st) μ)
  | .lmul => zv_p2l st (fun x y st => k ls (.long (x * y) :: st) μ)
  | .lxor => zv_p2l st (fun x y st => k ls (.long (x ^^^ y) :: st) μ)
  | .ldiv => zv_p2l st (fun x y st => if y = 0 then none else k ls (.long (x / y) :: st) μ)
  | .lrem => zv_p2l st (fun x y st => if y = 0 then none else k ls (.long (x - x / y * y) :: st) μ)
  | .lneg => zv_p1l st (fun x st => k ls (.long (-x) :: st) μ)
  | .lcmp => zv_p2l st (fun x y st => k ls (.int (lg_cmp x y) :: st) μ)
  | .i2l => zv_p1i st (fun x st => k ls (.long x.toInt64 :: st) μ)
  | .l2i => zv_p1l st (fun x st => k ls (.int x.toInt32 :: st) μ)
  | .i2b => zv_p1i st (fun x st => k ls (.int x.toInt8.toInt32 :: st) μ)
  | .i2c => zv_p1i st (fun x st => k ls (.int (x.toUInt32 % 65536).toInt32 :: st) μ)
  | .dup => (match st with
    | v :: st => if v.category = 1 then k ls (v :: v :: st) μ else none
    | _ => none)
  | .dup2 => (match st with
    | v :: w :: st => if v.category = 1 then (if w.category = 1 then k ls (v :: w :: v :: w :: st) μ else none) else none
    | _ => none)
  | .pop => (match st with
    | v :: st => if v.category = 1 then k ls st μ else none
    | _ => none)
  | .getfield _ => zv_get d st μ (fun v st => k ls (v :: st) μ)
  | .putfield _ => zv_put d st μ (fun st μ => k ls st μ)
  | .getstatic _ => (match d with
    | [0, i] => k ls (.retAddr i :: st) μ
    | [1, v] => k ls (.int (Int32.ofNat v) :: st) μ
    | _ => none)
  | .iaload => (match st with
    | .int i :: .ref a :: st => zv_ix μ 0 a i (fun j => k ls (.int (μ.2.1 a j) :: st) μ)
    | .int i :: .retAddr o :: st => if o < 4 then zv_ox X o i (fun x => k ls (.int x :: st) μ) else none
    | _ => none)
  | .baload => (match st with
    | .int i :: .ref a :: st => (match d with
      | [t] => if t = 2 ∨ t = 3 then zv_ix μ t a i (fun j => k ls (.int (μ.2.1 a j) :: st) μ) else none
      | _ => none)
    | .int i :: .retAddr o :: st => if 50 ≤ o ∧ o < 57 then zv_ox X o i (fun x => k ls (.int x :: st) μ) else none
    | _ => none)
  | .laload => (match st with
    | .int i :: .ref a :: st => zv_ix μ 1 a i (fun j => k ls (.long (μ.2.2.1 a j) :: st) μ)
    | _ => none)
  | .aaload => (match st with
    | .int i :: .ref a :: st => zv_iq μ a i (fun j => match μ.2.2.2 a j with
      | some p => k ls (.ref p :: st) μ
      | none => none)
    | _ => none)
  | .iastore => (match st with
    | .int x :: .int i :: .ref a :: st => zv_ix μ 0 a i (fun j => k ls st (zv_wI μ a j x))
    | _ => none)
  | .bastore => (match st, d with
    | .int x :: .int i :: .ref a :: st, [t] => if t = 2 ∨ t = 3 then zv_ix μ t a i (fun j => k ls st (zv_wI μ a j (zv_nar t x))) else none
    | _, _ => none)
  | .lastore => (match st with
    | .long x :: .int i :: .ref a :: st => zv_ix μ 1 a i (fun j => k ls st (zv_wL μ a j x))
    | _ => none)
  | .aastore => (match st with
    | .ref p :: .int i :: .ref a :: st => zv_ix μ 4 a i (fun j => zv_ob μ 5 p (k ls st (zv_wP μ a j (some p))))
    | _ => none)
  | .arraylength => (match st with
    | .ref a :: st => (match μ.1[a]? with
      | some (.inl (t, n)) => if t < 7 then k ls (.int (Int32.ofNat n) :: st) μ else none
      | _ => none)
    | .retAddr o :: st => if o < 4 ∨ (50 ≤ o ∧ o < 57) then k ls (.int (Int32.ofNat (zv_old X o).1) :: st) μ else none
    | _ => none)
  | .new _ => (match d with
    | [c] => if c < 13 then k ls (.ref μ.1.length :: st) (zv_mk μ (.inr c)) else none
    | _ => none)
  | .newarray _ => (match st, d with
    | .int n :: st, [t] => if n < 0 ∨ 100000 < n.toNatClampNeg ∨ 4 ≤ t then none else k ls (.ref μ.1.length :: st) (zv_mk μ (.inl (t, n.toNatClampNeg)))
    | _, _ => none)
  | .anewarray _ => (match st with
    | .int n :: st => if n < 0 ∨ 100000 < n.toNatClampNeg then none else k ls (.ref μ.1.length :: st) (zv_mk μ (.inl (4, n.toNatClampNeg)))
    | _ => none)
  | .multianewarray _ _ => (match st, d with
    | .int k' :: .int n :: st, [ot, it] => if n < 0 ∨ k' < 0 ∨ 1000 < n.toNatClampNeg ∨ 1000 < k'.toNatClampNeg ∨ ¬ ((ot = 5 ∧ it = 0) ∨ (ot = 6 ∧ it = 1)) then none else
        k ls (.ref μ.1.length :: st) (zv_mks (.inl (it, k'.toNatClampNeg)) n.toNatClampNeg ((zv_mk μ (.inl (ot, n.toNatClampNeg))).1, (zv_mk μ (.inl (ot, n.toNatClampNeg))).2.1, (zv_mk μ (.inl (ot, n.toNatClampNeg))).2.2.1, va_up μ.2.2.2 μ.1.length (fun j => if j < n.toNatClampNeg then some (μ.1.length + 1 + j) else none)))
    | _, _ => none)
  | .checkcast _ => (match st with
    | .ref a :: st => (match μ.1[a]? with
      | some (.inl (0, _)) => k ls (.ref a :: st) μ
      | _ => none)
    | _ => none)
  | .invokestatic _ => (match st with
    | .int n :: .int dp :: .ref b :: .int sp :: .ref a :: st => (match μ.1[a]?, μ.1[b]? with
      | some (.inl (0, na)), some (.inl (0, nb)) => if sp < 0 ∨ dp < 0 ∨ n < 0 ∨ na < sp.toNatClampNeg + n.toNatClampNeg ∨ nb < dp.toNatClampNeg + n.toNatClampNeg ∨ 8 < (st.map fun v => v.category).sum then none else
          k ls st (zv_wA μ b (va_cpy (μ.2.1 a) (μ.2.1 b) sp.toNatClampNeg dp.toNatClampNeg n.toNatClampNeg))
      | _, _ => none)
    | _ => none)
  | .invokevirtual _ => (match st with
    | .retAddr 1 :: st => if 8 < (st.map fun v => v.category).sum then none else k ls (.ref μ.1.length :: st) (zv_wA (zv_mk μ (.inl (0, 8))) μ.1.length (zv_old X 1).2)
    | _ => none)
  | .invokespecial _ => (match st with
    | .ref _ :: st => if 8 < (st.map fun v => v.category).sum then none else k ls st μ
    | _ => none)
  | _ => none
end ZVM
