section ZMAIN2
variable {X : zv_X} {s0 : Nat} {ov : Nat → Value} {cA : Nat → ClassId} {D : va_G} {n0 z0 : Nat} {res : zv_R} {m : Nat} {p : Program} {l : Launch} {e : Env} {R : Room} {s : State} {mid : MethodId} {args : Array Value} {below : List Frame} {meth : Method} {c : Code} {Q : State → Prop}
variable {pc : Nat} {d : List Nat} {ls : zv_L} {st : List Value} {μ : zv_M} {k : zv_L → List Value → zv_M → Option zv_R}
theorem zrc3 {t : Option FieldType} (h : zrc 3 t = true) : ∃ n, t = some (.object n) := by
  cases t with
  | none => cases h
  | some ty => cases ty <;> first | exact ⟨_, rfl⟩ | cases h
/-- which answer, where -/
def zrd (m pc : Nat) (v : Option Value) : Prop := match v with
  | none => decode (zv_mb m) pc = .ok (.return_, 1) ∧ zv_mr m = none
  | some (.int x) => decode (zv_mb m) pc = .ok (.ireturn, 1) ∧ ∃ ty, zv_mr m = some ty ∧ narrow ty (.int x) = .int x
  | some (.long _) => decode (zv_mb m) pc = .ok (.lreturn, 1) ∧ zv_mr m = some .long
  | some (.retAddr i) => decode (zv_mb m) pc = .ok (.areturn, 1) ∧ i ≠ 90 ∧ ∃ n, zv_mr m = some (.object n)
  | _ => False
def zRet (s0 : Nat) (ov : Nat → Value) (cA : Nat → ClassId) (D : va_G) (n0 z0 : Nat) (res : zv_R) (m : Nat) (p : Program) (l : Launch) (e : Env) (R : Room) (s : State) (mid : MethodId) (args : Array Value) (below : List Frame) (meth : Method) (c : Code) (Q : State → Prop) : Prop :=
  ∀ (pc : Nat) (H : Heap) (locs : List Loc) (rl : Array Slot), va_P D vwCl (zws s0 cA res.2) H → va_S (fun q => s0 ≤ q) s.heap H locs → n0 ≤ res.2.1.length → z0 ≤ zsl res.2.1 → zrd m pc res.1 → W p l e R s mid args below meth c H locs (res.2.1.length - n0) (zsl res.2.1 - z0) Q (F0 mid pc rl (res.1.toList.map (zc s0 ov)))
theorem zs_ret (hR : zRet s0 ov cA D n0 z0 res m p l e R s mid args below meth c Q) {v : Option Value} (he : res = (v, μ)) (hd : zrd m pc v) : zW X s0 ov cA D n0 z0 res m p l e R s mid args below meth c Q pc ls v.toList μ := by
  subst he
  exact ⟨⟨Nat.le_refl _, Nat.le_refl _⟩, fun H locs rl h1 h2 hP hS hl hL => hR pc H locs rl hP hS h1 h2 hd⟩
theorem zs_one (C : zCx X s0 ov cA D n0 z0 res m p R s mid args meth c) (hrc : zrc (zv_mi m).2.1 (zv_mr m) = true) {K : zv_C → Option zv_R} (hJ : ∀ l9 ls st μ, K (m, l9, ls, st, μ) = some res → zW X s0 ov cA D n0 z0 res m p l e R s mid args below meth c Q l9 ls st μ) (hCall : ∀ (b : Nat) (as : List Value) (μ : zv_M) (r : zv_R), K (b, 0, zv_ent b as, [], μ) = some r → b < 209 → (zv_flt as).length ≤ (zv_mi b).1 → (μ.1.length ≤ r.2.1.length ∧ zsl μ.1 ≤ zsl r.2.1) ∧ zMet l X s0 ov cA D b as μ r) (hR : zRet s0 ov cA D n0 z0 res m p l e R s mid args below meth c Q) (hM : ∀ (pc idx dm : Nat) (d : List Nat) (ls : zv_L) (st : List Value) (μ : zv_M) (k : zv_L → List Value → zv_M → Option zv_R), zchk m (pc, .multianewarray idx dm, d) = true → zv_op X (.multianewarray idx dm) d ls st μ k = some res → (∀ ls st μ, k ls st μ = some res → zW X s0 ov cA D n0 z0 res m p l e R s mid args below meth c Q (pc + 4) ls st μ) → zW X s0 ov cA D n0 z0 res m p l e R s mid args below meth c Q pc ls st μ) {i : Instr} (hc : zchk m (pc, i, d) = true) (h : zv_one X m K (pc, i, d) ls st μ k = some res) (hk : ∀ ls st μ, k ls st μ = some res → zW X s0 ov cA D n0 z0 res m p l e R s mid args below meth c Q (pc + zlen i) ls st μ) : zW X s0 ov cA D n0 z0 res m p l e R s mid args below meth c Q pc ls st μ := by
  unfold zv_one at h
  dsimp only at h
  split at h
  · split at h
    · rename_i l9
      have e : [l9] = [pc] := of_decide_eq_true hc
      have e : l9 = pc := by simpa using e
      subst e
      exact zs_jmp hJ h
    · cases h
  · rename_i off
    obtain ⟨a1, a2⟩ := zand hc
    split at h
    · rename_i l9
      have g := zs_jmp hJ h
      exact ⟨g.1, fun H locs rl h1 h2 hP hS hl hL => lv_goto C.1 C.2.1 (zdec_ok a1) (of_decide_eq_true a2) (g.2 H locs rl h1 h2 hP hS hl hL)⟩
    · cases h
  · rename_i b9 off
    obtain ⟨a1, a2⟩ := zand hc
    split at h
    · exact zs_ifc C hJ (zdec_ok a1) (of_decide_eq_true a2) h hk
    · cases h
  · rename_i b9 off
    obtain ⟨a1, a2⟩ := zand hc
    split at h
    · exact zs_icmp C hJ (zdec_ok a1) (of_decide_eq_true a2) h hk
    · cases h
  · split at h
    · have g := hk _ _ _ h
      exact ⟨g.1, fun H locs rl h1 h2 hP hS hl hL => lv_ifnull C.1 C.2.1 (zdec_ok hc) (g.2 H locs rl h1 h2 hP hS hl hL)⟩
    · cases h
  · rename_i df lo hi offs
    split at h
    · rename_i n9 l0 tg x st
      obtain ⟨a1, a3⟩ := zand hc
      obtain ⟨a1, a2⟩ := zand a1
      have a2 := of_decide_eq_true a2
      have a3 := of_decide_eq_true a3
      split at h
      · rename_i hx
        have g := zs_jmp hJ h
        exact ⟨g.1, fun H locs rl h1 h2 hP hS hl hL => lv_tableOut C.1 C.2.1 (zdec_ok a1) hx a2 (g.2 H locs rl h1 h2 hP hS hl hL)⟩
      · rename_i hx
        split at h
        · rename_i l9 hl9
          have g := zs_jmp hJ h
          have e1 : (offs.toList.map (fun o => (pc : Int) + o))[(x.toInt - lo).toNat]? = some (l9 : Int) := by
            rw [← a3, List.getElem?_map, hl9]
            rfl
          rw [List.getElem?_map] at e1
          obtain ⟨off, ho, he⟩ := Option.map_eq_some_iff.mp e1
          rw [Array.getElem?_toList] at ho
          exact ⟨g.1, fun H locs rl h1 h2 hP hS hl hL => lv_tableIn C.1 C.2.1 (zdec_ok a1) (fun q => hx (Or.inl q)) (fun q => hx (Or.inr q)) ho he (g.2 H locs rl h1 h2 hP hS hl hL)⟩
        · cases h
    · cases h
  · split at h
    · rename_i v
      unfold zv_rt at h
      have hd : decode (zv_mb m) pc = .ok (.ireturn, 1) := zdec_ok hc
      unfold zrc at hrc
      split at h
      · rename_i e9
        rw [e9] at hrc
        have e8 := of_decide_eq_true hrc
        exact zs_ret (v := some (.int v)) hR (Option.some.inj h).symm ⟨hd, _, e8, rfl⟩
      · rename_i e9
        rw [e9] at hrc
        have e8 := of_decide_eq_true hrc
        split at h
        · rename_i hv
          exact zs_ret (v := some (.int v)) hR (Option.some.inj h).symm ⟨hd, _, e8, by rcases hv with rfl | rfl <;> rfl⟩
        · cases h
      · rename_i e9
        rw [e9] at hrc
        have e8 := of_decide_eq_true hrc
        split at h
        · rename_i hv
          exact zs_ret (v := some (.int v)) hR (Option.some.inj h).symm ⟨hd, _, e8, congrArg Value.int hv⟩
        · cases h
      · rename_i e9
        rw [e9] at hrc
        have e8 := of_decide_eq_true hrc
        split at h
        · rename_i hv
          exact zs_ret (v := some (.int v)) hR (Option.some.inj h).symm ⟨hd, _, e8, congrArg Value.int hv⟩
        · cases h
      · cases h
    · cases h
  · split at h
    · rename_i v
      split at h
      · rename_i e9
        rw [e9] at hrc
        exact zs_ret (v := some (.long v)) hR (Option.some.inj h).symm ⟨zdec_ok hc, of_decide_eq_true hrc⟩
      · cases h
    · cases h
  · split at h
    · rename_i v
      split at h
      · rename_i e9
        rw [e9.1] at hrc
        exact zs_ret (v := some (.retAddr v)) hR (Option.some.inj h).symm ⟨zdec_ok hc, e9.2, zrc3 hrc⟩
      · cases h
    · cases h
  · split at h
    · split at h
      · rename_i e9
        rw [e9] at hrc
        exact zs_ret (v := none) hR (Option.some.inj h).symm ⟨zdec_ok hc, of_decide_eq_true hrc⟩
      · cases h
    · cases h
  · rename_i idx
    obtain ⟨a1, a2⟩ := zand hc
    split at h
    · rename_i b n rk
      have a3 : zmc m idx [b, n, rk] = true := by
        dsimp only at a2
        split at a2 <;> first | exact a2 | simp_all
      exact zs_cS C hCall (zdec_ok a1) a3 h hk
    · rename_i hd3
      dsimp only at a2
      split at a2
      · simp only [Bool.and_eq_true, decide_eq_true_eq] at a2
        obtain ⟨⟨a2, a3⟩, a4⟩ := a2
        refine zs_arraycopy C (zdec_ok a1) ⟨?_, zt_sy.1, zt_sy.2.1, zt_sy.2.2.1, a3, a4⟩ h hk
        obtain ⟨q, hq, e⟩ := List.any_eq_true.mp a2
        simp only [Bool.and_eq_true, beq_iff_eq] at e
        obtain ⟨e1, e2⟩ := e
        have h5 := List.all_eq_true.mp zt_a_ok q hq
        rw [e1, e2] at h5
        exact zat_in h5 rfl
      · exfalso
        unfold zmc at a2
        split at a2
        · exact hd3 _ _ _ rfl
        · cases a2
  · rename_i idx
    obtain ⟨a1, a2⟩ := zand hc
    split at h
    · rename_i b n rk
      have a3 : zmc m idx [b, n, rk] = true := by
        dsimp only at a2
        split at a2 <;> first | exact a2 | simp_all
      exact zs_cV C hCall (zdec_ok a1) a3 h hk
    · rename_i hd3
      dsimp only at a2
      split at a2
      · have a3 := of_decide_eq_true a2
        obtain ⟨⟨a3, a5, a6⟩, a4⟩ := a3
        subst a4
        exact zs_clone C (zdec_ok a1) ⟨a3, a5, a6⟩ h hk
      · exfalso
        unfold zmc at a2
        split at a2
        · exact hd3 _ _ _ rfl
        · cases a2
  · rename_i idx
    obtain ⟨a1, a2⟩ := zand hc
    split at h
    · rename_i b n rk
      have a3 : zmc m idx [b, n, rk] = true := by
        dsimp only at a2
        split at a2 <;> first | exact a2 | simp_all
      exact zs_cI C hCall (zdec_ok a1) a3 h hk
    · rename_i hd3
      dsimp only at a2
      split at a2
      · simp only [Bool.and_eq_true, decide_eq_true_eq] at a2
        obtain ⟨⟨a2, a3⟩, a4⟩ := a2
        refine zs_objinit C (zdec_ok a1) ⟨?_, zt_sy.2.2.2.1, zt_sy.2.2.2.2, a3, a4⟩ h hk
        obtain ⟨q, hq, e⟩ := List.any_eq_true.mp a2
        simp only [Bool.and_eq_true, beq_iff_eq] at e
        obtain ⟨e1, e2⟩ := e
        have h5 := List.all_eq_true.mp zt_o_ok q hq
        rw [e1, e2] at h5
        exact zat_in h5 rfl
      · exfalso
        unfold zmc at a2
        split at a2
        · exact hd3 _ _ _ rfl
        · cases a2
  · rename_i n1 n2 n3 n4 n5 n6 n7 n8 n9 n10 n11 n12 n13
    exact zs_ops C hc h (fun n e => n11 n e) (fun n e => n12 n e) (fun n e => n13 n e) (fun idx dm e => by subst e; exact hM _ _ _ _ _ _ _ _ hc h hk) hk
theorem zs_exe (C : zCx X s0 ov cA D n0 z0 res m p R s mid args meth c) (hrc : zrc (zv_mi m).2.1 (zv_mr m) = true) {K : zv_C → Option zv_R} (hJ : ∀ l9 ls st μ, K (m, l9, ls, st, μ) = some res → zW X s0 ov cA D n0 z0 res m p l e R s mid args below meth c Q l9 ls st μ) (hCall : ∀ (b : Nat) (as : List Value) (μ : zv_M) (r : zv_R), K (b, 0, zv_ent b as, [], μ) = some r → b < 209 → (zv_flt as).length ≤ (zv_mi b).1 → (μ.1.length ≤ r.2.1.length ∧ zsl μ.1 ≤ zsl r.2.1) ∧ zMet l X s0 ov cA D b as μ r) (hR : zRet s0 ov cA D n0 z0 res m p l e R s mid args below meth c Q) (hM : ∀ (pc idx dm : Nat) (d : List Nat) (ls : zv_L) (st : List Value) (μ : zv_M) (k : zv_L → List Value → zv_M → Option zv_R), zchk m (pc, .multianewarray idx dm, d) = true → zv_op X (.multianewarray idx dm) d ls st μ k = some res → (∀ ls st μ, k ls st μ = some res → zW X s0 ov cA D n0 z0 res m p l e R s mid args below meth c Q (pc + 4) ls st μ) → zW X s0 ov cA D n0 z0 res m p l e R s mid args below meth c Q pc ls st μ) : ∀ (is : List zv_I) (pc : Nat) (ls : zv_L) (st : List Value) (μ : zv_M), zchkl m is = true → (∀ q r, is = q :: r → q.1 = pc) → zv_exe X m K is ls st μ = some res → zW X s0 ov cA D n0 z0 res m p l e R s mid args below meth c Q pc ls st μ
  | [], _, _, _, _, _, _, h => by cases h
  | (pc0, i, d) :: r, pc, ls, st, μ, hc, hp, h => by
    have e : pc0 = pc := hp _ _ rfl
    subst e
    have h : zv_one X m K (pc0, i, d) ls st μ (fun ls st μ => zv_exe X m K r ls st μ) = some res := h
    unfold zchkl at hc
    obtain ⟨a1, a3⟩ := zand hc
    obtain ⟨a1, a2⟩ := zand a1
    refine zs_one C hrc hJ hCall hR hM a1 h (fun ls st μ h9 => zs_exe C hrc hJ hCall hR hM r _ ls st μ a3 (fun q r' e => ?_) h9)
    subst e
    exact of_decide_eq_true a2
end ZMAIN2
