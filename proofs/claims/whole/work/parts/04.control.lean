/-! jumps, calls, answers; the run -/
def zv_fnd (l : Nat) : List (Nat × List Bool × List zv_I) → Option (List Bool × List zv_I)
  | [] => none
  | b :: r => if b.1 = l then some b.2 else zv_fnd l r
def zv_blk (m l : Nat) : Option (List Bool × List zv_I) := match zv_bt[m]? with
  | some bs => zv_fnd l bs
  | none => none
def zv_mi (m : Nat) : Nat × Nat × Nat × Nat × Nat × Nat × Nat := match zv_mt[m]? with
  | some q => q
  | none => (0, 0, 99, 0, 0, 9, 0)
def zv_msk : List Bool → zv_L → zv_L
  | true :: bs, v :: ls => v :: zv_msk bs ls
  | false :: bs, _ :: ls => none :: zv_msk bs ls
  | _, ls => ls
def zv_jmp (m l : Nat) (ls : zv_L) (st : List Value) (μ : zv_M) : zv_C := match zv_blk m l with
  | some b => (m, l, zv_msk b.1 ls, st, μ)
  | none => (m, l, ls, st, μ)
def zv_flt : List Value → zv_L
  | [] => []
  | v :: r => if v.category = 2 then some v :: none :: zv_flt r else some v :: zv_flt r
def zv_ent (m : Nat) (as : List Value) : zv_L := zv_flt as ++ List.replicate ((zv_mi m).1 - (zv_flt as).length) none
def zv_if {α : Type} (c : ClassFile.Cond) (x y : Int32) (A B : Option α) : Option α := match c with
  | .eq => if x = y then A else B
  | .ne => if x = y then B else A
  | .lt => if x < y then A else B
  | .ge => if y ≤ x then A else B
  | .gt => if y < x then A else B
  | .le => if x ≤ y then A else B
def zv_rt (m : Nat) (v : Int32) (μ : zv_M) : Option zv_R := match (zv_mi m).2.1 with
  | 1 => some (some (.int v), μ)
  | 4 => if v = 0 ∨ v = 1 then some (some (.int v), μ) else none
  | 5 => if vp_nar .char v = v then some (some (.int v), μ) else none
  | 6 => if vp_nar .byte v = v then some (some (.int v), μ) else none
  | _ => none
def zv_ci {α : Type} (o : Option zv_R) (k : Int32 → zv_M → Option α) : Option α := match o with
  | some (some (.int v), μ) => k v μ
  | _ => none
def zv_cl {α : Type} (o : Option zv_R) (k : Int64 → zv_M → Option α) : Option α := match o with
  | some (some (.long v), μ) => k v μ
  | _ => none
def zv_cr {α : Type} (o : Option zv_R) (k : Nat → zv_M → Option α) : Option α := match o with
  | some (some (.retAddr v), μ) => k v μ
  | _ => none
def zv_cv {α : Type} (o : Option zv_R) (k : zv_M → Option α) : Option α := match o with
  | some (none, μ) => k μ
  | _ => none
/-- the callee's answer comes onto the stack -/
def zv_bk {α : Type} (rk : Nat) (o : Option zv_R) (st : List Value) (k : List Value → zv_M → Option α) : Option α := match rk with
  | 0 => zv_cv o (fun μ => k st μ)
  | 1 => zv_ci o (fun v μ => k (.int v :: st) μ)
  | 2 => zv_cl o (fun v μ => k (.long v :: st) μ)
  | 3 => zv_cr o (fun v μ => k (.retAddr v :: st) μ)
  | _ => none
/-- room for the call: the caller m, the callee c, what lies below its arguments -/
def zv_fit (m c n kd : Nat) (as rest : List Value) : Bool := decide ((zv_mi c).2.2.2.1 + 1 ≤ (zv_mi m).2.2.2.1) && decide (8 + ((zv_mi c).1 + 11) + (zv_mi c).2.2.2.2.1 ≤ (zv_mi m).2.2.2.2.1) && decide ((rest.map fun v => v.category).sum ≤ 8) && decide ((zv_flt as).length ≤ (zv_mi c).1) && decide ((zv_mi c).2.2.2.2.2.1 = kd) && decide ((zv_mi c).2.2.2.2.2.2 = n)
def zv_rcv {α : Type} (c : Nat) (v : Value) (μ : zv_M) (r : Option α) : Option α := match v with
  | .ref a => zv_ob μ (zv_mi c).2.2.1 a r
  | .retAddr i => if 20 ≤ i ∧ i < 27 ∧ (zv_mi c).2.2.1 = 22 then r else none
  | _ => none
def zv_cS (m : Nat) (K : zv_C → Option zv_R) (c n rk : Nat) (st : List Value) (μ : zv_M) (k : List Value → zv_M → Option zv_R) : Option zv_R :=
  if n ≤ st.length ∧ zv_fit m c n 0 (st.take n).reverse (st.drop n) = true then zv_bk rk (K (c, 0, zv_ent c (st.take n).reverse, [], μ)) (st.drop n) k else none
def zv_cV (m kd : Nat) (K : zv_C → Option zv_R) (c n rk : Nat) (st : List Value) (μ : zv_M) (k : List Value → zv_M → Option zv_R) : Option zv_R := match st.drop n with
  | r :: rest => if n ≤ st.length ∧ zv_fit m c n kd (r :: (st.take n).reverse) rest = true then zv_rcv c r μ (zv_bk rk (K (c, 0, zv_ent c (r :: (st.take n).reverse), [], μ)) rest k) else none
  | [] => none
def zv_one (X : zv_X) (m : Nat) (K : zv_C → Option zv_R) (q : zv_I) (ls : zv_L) (st : List Value) (μ : zv_M) (k : zv_L → List Value → zv_M → Option zv_R) : Option zv_R := match q.2.1 with
  | .nop => (match q.2.2 with
    | [l] => K (zv_jmp m l ls st μ)
    | _ => none)
  | .goto _ => (match q.2.2 with
    | [l] => K (zv_jmp m l ls st μ)
    | _ => none)
  | .ifCond c _ => (match q.2.2, st with
    | [l], .int x :: st => zv_if c x 0 (K (zv_jmp m l ls st μ)) (k ls st μ)
    | _, _ => none)
  | .if_icmp c _ => (match q.2.2, st with
    | [l], .int y :: .int x :: st => zv_if c x y (K (zv_jmp m l ls st μ)) (k ls st μ)
    | _, _ => none)
  | .ifnull _ => (match st with
    | .ref _ :: st => k ls st μ
    | _ => none)
  | .tableswitch _ lo hi _ => (match q.2.2, st with
    | _ :: df :: tg, .int x :: st => if x.toInt < lo ∨ hi < x.toInt then K (zv_jmp m df ls st μ) else (match tg[(x.toInt - lo).toNat]? with
      | some l => K (zv_jmp m l ls st μ)
      | none => none)
    | _, _ => none)
  | .ireturn => (match st with
    | [.int v] => zv_rt m v μ
    | _ => none)
  | .lreturn => (match st with
    | [.long v] => if (zv_mi m).2.1 = 2 then some (some (.long v), μ) else none
    | _ => none)
  | .areturn => (match st with
    | [.retAddr v] => if (zv_mi m).2.1 = 3 ∧ v ≠ 90 then some (some (.retAddr v), μ) else none
    | _ => none)
  | .return_ => (match st with
    | [] => if (zv_mi m).2.1 = 0 then some (none, μ) else none
    | _ => none)
  | .invokestatic i => (match q.2.2 with
    | [c, n, rk] => zv_cS m K c n rk st μ (fun st μ => k ls st μ)
    | _ => zv_op X (.invokestatic i) q.2.2 ls st μ k)
  | .invokevirtual i => (match q.2.2 with
    | [c, n, rk] => zv_cV m 1 K c n rk st μ (fun st μ => k ls st μ)
    | _ => zv_op X (.invokevirtual i) q.2.2 ls st μ k)
  | .invokespecial i => (match q.2.2 with
    | [c, n, rk] => zv_cV m 2 K c n rk st μ (fun st μ => k ls st μ)
    | _ => zv_op X (.invokespecial i) q.2.2 ls st μ k)
  | i => zv_op X i q.2.2 ls st μ k
def zv_exe (X : zv_X) (m : Nat) (K : zv_C → Option zv_R) : List zv_I → zv_L → List Value → zv_M → Option zv_R
  | [], _, _, _ => none
  | q :: r, ls, st, μ => zv_one X m K q ls st μ (fun ls st μ => zv_exe X m K r ls st μ)
def zv_step (X : zv_X) (K : zv_C → Option zv_R) (c : zv_C) : Option zv_R := match zv_blk c.1 c.2.1 with
  | some b => zv_exe X c.1 K b.2 c.2.2.1 c.2.2.2.1 c.2.2.2.2
  | none => none
def zv_run (X : zv_X) : Nat → zv_C → Option zv_R
  | 0, _ => none
  | n + 1, c => zv_step X (zv_run X n) c
section
variable (X : zv_X) (c : zv_C)
noncomputable def zR : Option zv_R := @dite _ (∃ n, (zv_run X n c).isSome = true) (Classical.propDecidable _) (fun h => zv_run X (Classical.choose h) c) (fun _ => none)
end
