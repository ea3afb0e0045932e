/-! CALLS: a method's contract, out of its run -/
def zv_ws (b : Nat) : List Cond := zmcd b :: zv_gw
def zv_rm (b : Nat) (μ : zv_M) (r : zv_R) : Room := { frames := (zv_mi b).2.2.2.1, cells := r.2.1.length - μ.1.length, slots := zsl r.2.1 - zsl μ.1, locals := (zv_mi b).2.2.2.2.1 }
def zPre (X : zv_X) (s0 : Nat) (ov : Nat → Value) (cA : Nat → ClassId) (D : va_G) (μ : zv_M) (U : State) : Prop := U.heap.size = s0 + μ.1.length ∧ va_P D vwCl (zws s0 cA μ) U.heap ∧ va_K D vwCl (zv_tys cA) U ∧ zG X s0 ov U U.heap
def zPost (s0 : Nat) (ov : Nat → Value) (cA : Nat → ClassId) (D : va_G) (r : zv_R) : Array Value → State → Outcome → State → Prop := fun _ st oc t => (oc = .returned (r.1.map (zc s0 ov)) ∧ va_P D vwCl (zws s0 cA r.2) t.heap) ∧ va_F (fun q => s0 ≤ q) st t
def zMet (l : Launch) (X : zv_X) (s0 : Nat) (ov : Nat → Value) (cA : Nat → ClassId) (D : va_G) (b : Nat) (as : List Value) (μ : zv_M) (r : zv_R) : Prop := Met l (zv_mn b) (zv_ws b) (zv_rm b μ r) (va_Pc (as.map (zc s0 ov)) (zPre X s0 ov cA D μ)) (zPost s0 ov cA D r) (r.2.1.length - μ.1.length) (zsl r.2.1 - zsl μ.1) (fun q => s0 ≤ q)
theorem zA2_moved {ty : FieldType} {u U : State} (hv : u.vm.Alike U.vm) (h : zA2 ty u) : zA2 ty U := by
  obtain ⟨c0, c5, k, h1, h2, h3, h4⟩ := h
  obtain ⟨k', hk', he⟩ := hv.2.2 _ _ h3
  exact ⟨c0, c5, k', by rw [hv.findClass]; exact h1, by rw [hv.findClass]; exact h2, hk', by rw [he]; exact h4⟩
theorem zNw_warm {s U : State} (hW : s.WarmedH U.vm) (h : ∀ w ∈ zv_nw, va_Nw w s) : ∀ w ∈ zv_nw, va_Nw w U := by
  intro w hw
  have h9 := h w hw
  simp only [zv_nw, List.mem_cons, List.not_mem_nil, or_false] at hw
  rcases hw with rfl | rfl | rfl | rfl | rfl | rfl | rfl | rfl | rfl | rfl | rfl | rfl | rfl | rfl | rfl | rfl | rfl <;> first | exact va_Nw.warmF hW h9 | exact va_Nw.warmM hW h9 | exact va_Nw.warmC hW h9
theorem zG_to {X : zv_X} {s0 : Nat} {ov : Nat → Value} {s U : State} {H : Heap} (h : zG X s0 ov s s.heap) (hq : ∀ a : Nat, a < s.heap.size → ¬ s0 ≤ a → H[a]? = s.heap[a]?) (hU : U.heap = H) (hW : s.WarmedH U.vm) : zG X s0 ov U U.heap := by
  obtain ⟨g1, g2, ⟨z1, z2, z3, z4, z5⟩, g4, g5, g6, g7, g8, t, cell, e1, e2, e3, e4, e5, e6, e7, e8⟩ := h
  have hv := hW.alike
  rw [hU]
  refine ⟨fun i hi => ?_, fun i hi => ?_, ⟨?_, ?_, ?_, ?_, ?_⟩, fun q hq' => ?_, zNw_warm hW g5, va_AO.moved hv g6, zA2_moved hv g7, zA2_moved hv g8, t, cell, e1, e2, ?_, e4, e5, by rw [hv.findClass]; exact e6, e7, e8⟩
  · obtain ⟨t, a1, a2⟩ := g1 i hi
    exact ⟨t, a1, (va_T.moved hv a2).kept hq⟩
  · obtain ⟨t, b, a1, a2, a3, a4, a5, a6⟩ := g2 i hi
    exact ⟨t, b, a1, a2, (va_O.moved hv a3).kept hq, (va_OF.moved hv a4).kept hq, (va_OF.moved hv a5).kept hq, (va_T.moved hv a6).kept hq⟩
  · exact (va_Z.moved hv z1).kept hq
  · exact (va_Z.moved hv z2).kept hq
  · exact (va_Z.moved hv z3).kept hq
  · exact (va_Z.moved hv z4).kept hq
  · exact (va_Z.moved hv z5).kept hq
  · obtain ⟨a, a1, a2⟩ := g4 q hq'
    exact ⟨a, a1, vk_R.warm hW a2⟩
  · rw [hq t (Array.getElem?_eq_some_iff.mp e3).1 e2]
    exact e3
theorem zPc_blind {X : zv_X} {s0 : Nat} {ov : Nat → Value} {cA : Nat → ClassId} {D : va_G} {μ : zv_M} {av : List Value} : FrameBlind (va_Pc av (zPre X s0 ov cA D μ)) := by
  intro a U g mk h
  obtain ⟨h0, h1, h2, h3, h4⟩ := h
  have hW : U.WarmedH (U.calling g mk a).vm := State.WarmedH.refl U
  exact ⟨h0, h1, h2, va_K.moved hW.alike h3, zG_to (U := U.calling g mk a) h4 (fun _ _ _ => rfl) rfl hW⟩
theorem zPre_at {X : zv_X} {s0 : Nat} {ov : Nat → Value} {cA : Nat → ClassId} {D : va_G} {μ : zv_M} {s U : State} {H : Heap} {locs : List Loc} (hG : zG X s0 ov s s.heap) (hK : va_K D vwCl (zv_tys cA) s) (hP : va_P D vwCl (zws s0 cA μ) H) (hS : va_S (fun q => s0 ≤ q) s.heap H locs) (hsz : H.size = s0 + μ.1.length) (hU : U.heap = H) (hW : s.WarmedH U.vm) : zPre X s0 ov cA D μ U := ⟨by rw [hU]; exact hsz, by rw [hU]; exact hP, va_K.moved hW.alike hK, zG_to hG hS.2.1 hU hW⟩
theorem zgood (b : Nat) (hb : b < 209) : GoodIn zv_gw (zv_ws b) := by
  intro w hw
  rcases List.mem_cons.mp hw with rfl | hw
  · exact ⟨zt_cd_ok b hb, Or.inl rfl⟩
  · exact ⟨hw, good_of_word (List.mem_filter.mp hw).2⟩
/-- what the tables say of a method -/
theorem zmeth (b : Nat) (hb : b < 209) : Cond.initialized (zv_mn b).cls ∈ zv_gw ∧ (zv_mn b).cls = zv_cn (zv_mi b).2.2.1 ∧ plainFor (zv_mn b) = true ∧ zrc (zv_mi b).2.1 (zv_mr b) = true ∧ ((zv_mn b).cls ≠ "java/lang/invoke/MethodHandle" ∧ (zv_mn b).cls ≠ "java/lang/invoke/VarHandle" ∧ (parseMethodDescriptor (zv_mn b).desc).map (fun d => d.parameters.length) = some (zv_mi b).2.2.2.2.2.2) ∧
    ((zv_mi b).2.2.2.2.2.1 = 0 → Cond.static (zv_mn b) ∈ zv_gw) ∧ ((zv_mi b).2.2.2.2.2.1 = 1 → Cond.instanceMethod (zv_mn b) ∈ zv_gw ∧ Cond.selects (zv_mn b).cls (zv_mn b) (zv_mn b) ∈ zv_gw) ∧ ((zv_mi b).2.2.2.2.2.1 = 2 → Cond.instanceMethod (zv_mn b) ∈ zv_gw ∧ (zv_mn b).name = "<init>" ∧ zv_mr b = none) := by
  have hlen : zt_y.length = 210 := by decide +kernel
  have hidx : ∀ i, i < 210 → (zt_y[i]?).map (fun q => q.1) = some i := by decide +kernel
  obtain ⟨q, hq⟩ : ∃ q, zt_y[b]? = some q := ⟨_, List.getElem?_eq_getElem (by omega)⟩
  have e := hidx b (by omega)
  rw [hq] at e
  have e : q.1 = b := Option.some.inj e
  have h := List.all_eq_true.mp zt_y_ok q (List.mem_of_getElem? hq)
  have h : zmchk q = true := by
    rcases Bool.or_eq_true _ _ ▸ h with h | h
    · have := of_decide_eq_true h
      omega
    · exact h
  unfold zmchk at h
  rw [e] at h
  simp only [Bool.and_eq_true] at h
  obtain ⟨⟨⟨⟨⟨⟨h1, h2⟩, h3⟩, h4⟩, h5⟩, h6⟩, h7⟩ := h
  have h5 := of_decide_eq_true h5
  refine ⟨zat_in h1 rfl, of_decide_eq_true h2, h3, h4, ⟨h5.1, h5.2, of_decide_eq_true h6⟩, fun k => ?_, fun k => ?_, fun k => ?_⟩
  · rw [k] at h7
    exact zat_in h7 rfl
  · rw [k] at h7
    obtain ⟨a, b⟩ := zand h7
    exact ⟨zat_in a rfl, zat_in b rfl⟩
  · rw [k] at h7
    obtain ⟨a, b⟩ := zand h7
    obtain ⟨a, c⟩ := zand a
    exact ⟨zat_in a rfl, of_decide_eq_true c, of_decide_eq_true b⟩
theorem zlink {m i b n rk : Nat} (h : zmc m i [b, n, rk] = true) (hb : b ≠ 998) : b < 209 ∧ (Cond.methodLink (zv_cn (zow m)) i (zv_mn b) ∈ zv_gw ∨ Cond.methodLinkNest (zv_cn (zow m)) i (zv_mn b) "GuessedPlace" ∈ zv_nw) := by
  unfold zmc at h
  dsimp only at h
  rcases Bool.or_eq_true _ _ ▸ h with h | h
  · obtain ⟨h1, h2⟩ := zand h
    refine ⟨of_decide_eq_true h1, ?_⟩
    rcases Bool.or_eq_true _ _ ▸ h2 with h2 | h2
    · obtain ⟨q, hq, e⟩ := List.any_eq_true.mp h2
      simp only [Bool.and_eq_true, beq_iff_eq] at e
      obtain ⟨⟨e1, e2⟩, e3⟩ := e
      have h5 := List.all_eq_true.mp zt_m_ok q hq
      rw [e1, e2, e3] at h5
      exact Or.inl (zat_in h5 rfl)
    · obtain ⟨q, hq, e⟩ := List.any_eq_true.mp h2
      simp only [Bool.and_eq_true, beq_iff_eq] at e
      obtain ⟨⟨e1, e2⟩, e3⟩ := e
      have h5 := List.all_eq_true.mp zt_mN_ok q hq
      rw [e1, e2, e3] at h5
      exact Or.inr (of_decide_eq_true h5)
  · exact absurd (by simpa using h) hb
section ZCALL
variable {X : zv_X} {s0 : Nat} {ov : Nat → Value} {cA : Nat → ClassId} {D : va_G} {n0 z0 : Nat} {res : zv_R} {m : Nat} {p : Program} {l : Launch} {e : Env} {R : Room} {s : State} {mid : MethodId} {args : Array Value} {below : List Frame} {meth : Method} {c : Code} {Q : State → Prop}
variable {pc : Nat} {d : List Nat} {ls : zv_L} {st : List Value} {μ : zv_M} {k : zv_L → List Value → zv_M → Option zv_R}
theorem zcallW {H : Heap} {locs : List Loc} {cells slots mc ms : Nat} {rl : Array Slot} {st0 rest : List Value} {Qa : State → Outcome → State → Prop} (hr : va_Run p l e R s mid args below meth c H locs cells slots mc ms (F0 mid pc rl st0) rest Qa (fun q => s0 ≤ q)) (hS : va_S (fun q => s0 ≤ q) s.heap H locs) (hQ : ∀ st v t, Qa st (.returned v) t → va_F (fun q => s0 ≤ q) st t)
    (kk : ∀ (v : Option Value) (st₀ t : State) (locs1 : List Loc), Qa st₀ (.returned v) t → va_S (fun q => s0 ≤ q) s.heap t.heap locs1 → W p l e R s mid args below meth c t.heap locs1 (cells + mc) (slots + ms) Q (F0 mid (pc + 3) rl (v.toList ++ rest))) : W p l e R s mid args below meth c H locs cells slots Q (F0 mid pc rl st0) := by
  intro T hT X9
  obtain ⟨v, st₀, t, T', L, h0, X', hL, e1, e2, hq, st⟩ := hr T hT X9
  obtain ⟨f1, f2⟩ := hQ _ _ _ hq
  rw [h0] at f1 f2
  obtain ⟨t2, a1, b1⟩ := kk v st₀ t (locs ++ L) hq ⟨Nat.le_trans hS.1 f1, fun q h1 h2 => (f2 q (Nat.lt_of_lt_of_le h1 hS.1) h2).trans (hS.2.1 q h1 h2), fun q hq' => by
    rcases List.mem_append.mp hq' with h | h
    · exact hS.2.2 q h
    · exact hL q h⟩ T' e1 X'
  exact ⟨t2, st t2 a1, b1⟩
theorem zHsz {H : Heap} {locs : List Loc} (hP : va_P D vwCl (zws s0 cA μ) H) (hS : va_S (fun q => s0 ≤ q) s.heap H locs) (hs : s0 ≤ s.heap.size) (hle : H.size ≤ s0 + μ.1.length) : H.size = s0 + μ.1.length := by
  by_cases h0 : μ.1.length = 0
  · have := hS.1
    omega
  · have := (hP (μ.1.length - 1) _ (zws_get (by omega))).lt
    have h9 : s0 + (μ.1.length - 1) < H.size := this
    omega
/-- the room of a call, and its words -/
theorem zs_CB (C : zCx X s0 ov cA D n0 z0 res m p R s mid args meth c) {b n kd idx : Nat} {r1 : zv_R} {as rest : List Value} (hb : b < 209) (hfit : zv_fit m b n kd as rest = true) : ((zv_rm b μ r1).frames + 1 ≤ R.frames ∧ 8 + ((zv_mi b).1 + 11) + (zv_rm b μ r1).locals ≤ R.locals) ∧ (rest.map fun v => v.category).sum ≤ 8 ∧ (zv_flt as).length ≤ (zv_mi b).1 ∧ (zv_mi b).2.2.2.2.2.1 = kd ∧ (zv_mi b).2.2.2.2.2.2 = n := by
  unfold zv_fit at hfit
  simp only [Bool.and_eq_true, decide_eq_true_eq] at hfit
  obtain ⟨⟨⟨⟨⟨f1, f2⟩, f3⟩, f4⟩, f5⟩, f6⟩ := hfit
  have a1 := C.2.2.2.2.2.2.2.2.1
  have a2 := C.2.2.2.2.2.2.2.2.2.1
  refine ⟨⟨?_, ?_⟩, f3, f4, f5, f6⟩
  · show (zv_mi b).2.2.2.1 + 1 ≤ R.frames
    omega
  · show 8 + ((zv_mi b).1 + 11) + (zv_mi b).2.2.2.2.1 ≤ R.locals
    omega
theorem zs_cS (C : zCx X s0 ov cA D n0 z0 res m p R s mid args meth c) {K : zv_C → Option zv_R} (hCall : ∀ (b : Nat) (as : List Value) (μ : zv_M) (r : zv_R), K (b, 0, zv_ent b as, [], μ) = some r → b < 209 → (zv_flt as).length ≤ (zv_mi b).1 → (μ.1.length ≤ r.2.1.length ∧ zsl μ.1 ≤ zsl r.2.1) ∧ zMet l X s0 ov cA D b as μ r) {idx b n rk : Nat} (hd : decode (zv_mb m) pc = .ok (.invokestatic idx, 3)) (hc : zmc m idx [b, n, rk] = true) (h : zv_cS m K b n rk st μ (fun st μ => k ls st μ) = some res) (hk : ∀ ls st μ, k ls st μ = some res → zW X s0 ov cA D n0 z0 res m p l e R s mid args below meth c Q (pc + 3) ls st μ) : zW X s0 ov cA D n0 z0 res m p l e R s mid args below meth c Q pc ls st μ := by
  unfold zv_cS at h
  split at h
  · rename_i hq
    obtain ⟨hq1, hfit⟩ := hq
    obtain ⟨r1, st', hr1, hk2, hst', -⟩ := zbk_spec h
    have hb9 : b ≠ 998 := by
      intro e
      subst e
      revert hfit
      unfold zv_fit
      have e9 : zv_mi 998 = (0, 0, 99, 0, 0, 9, 0) := by decide +kernel
      rw [e9]
      simp
    obtain ⟨hb, hlink⟩ := zlink hc hb9
    obtain ⟨hR, hroom, hflt, hkd, hnp⟩ := zs_CB (μ := μ) (r1 := r1) (idx := idx) C hb hfit
    have M := zmeth b hb
    have g := hk _ _ _ hk2
    obtain ⟨gm, hMet⟩ := hCall b _ μ r1 hr1 hb hflt
    refine ⟨⟨Nat.le_trans gm.1 g.1.1, Nat.le_trans gm.2 g.1.2⟩, fun H locs rl h1 h2 hP hS hl hL => ?_⟩
    have hc1 : μ.1.length - n0 + (r1.2.1.length - μ.1.length) ≤ R.cells := by
      have a1 := g.1.1
      have a2 := C.2.2.2.2.2.2.2.2.2.2.2.2.2.1
      have a3 := gm.1
      omega
    have hs1 : zsl μ.1 - z0 + (zsl r1.2.1 - zsl μ.1) ≤ R.slots := by
      have a1 := g.1.2
      have a2 := C.2.2.2.2.2.2.2.2.2.2.2.2.2.2.1
      have a3 := gm.2
      omega
    refine W_have (P := H.size = s0 + μ.1.length) (fun T hT X9 => by
      have := X9.heapSize
      rw [hT, C.2.2.2.2.2.2.2.2.2.2.2.2.1] at this
      exact zHsz hP hS (by rw [C.2.2.2.2.2.2.2.2.2.2.2.2.1]; exact Nat.le_add_right _ _) (by omega)) (fun hsz => ?_)
    refine zcallW (mc := r1.2.1.length - μ.1.length) (ms := zsl r1.2.1 - zsl μ.1) (rest := ((st.drop n).map (zc s0 ov))) (Qa := zPost s0 ov cA D r1 (((st.take n).reverse.map (zc s0 ov))).toArray) ?_ hS (fun st v t h9 => h9.2) (fun v st₀ t locs1 h9 hS1 => ?_)
    · have hn : ((st.take n).reverse.map (zc s0 ov)).length = n := by simp [Nat.min_eq_left hq1]
      have hstk : st.map (zc s0 ov) = ((st.take n).reverse.map (zc s0 ov)).reverse ++ (st.drop n).map (zc s0 ov) := by
        rw [← List.map_reverse, List.reverse_reverse, ← List.map_append, List.take_append_drop]
      have hpre : PreS s H (va_Pc ((st.take n).reverse.map (zc s0 ov)) (zPre X s0 ov cA D μ)) ((st.take n).reverse.map (zc s0 ov)) := ⟨zPc_blind, fun U hU hW => ⟨rfl, zPre_at C.2.2.2.2.2.2.2.2.2.2.2.1 C.2.2.2.2.2.2.2.2.2.2.1 hP hS hsz hU hW⟩⟩
      rcases hlink with hlink | hlink
      · exact va_runS (n := n) ⟨C.1, C.2.1, C.2.2.1, C.2.2.2.1, C.2.2.2.2.1⟩ hMet ⟨callB_of n C.2.2.2.2.1 (zgood b hb) rfl rfl rfl (C.2.2.2.2.1 _ M.1) (C.2.2.2.2.1 _ hlink) (by rw [← hnp]; exact M.2.2.2.2.1) hR, C.2.2.2.2.1 _ (M.2.2.2.2.2.1 hkd)⟩ hpre rfl hn hl.1 hstk (lv_room (by rw [zc_cats C.2.2.2.2.2.2.2.2.2.2.2.2.2.2.2.1]; exact hroom)) hd ⟨hc1, hs1⟩
      · exact va_runSN (n := n) (host := "GuessedPlace") ⟨C.1, C.2.1, C.2.2.1, C.2.2.2.1, C.2.2.2.2.1⟩ hMet ⟨va_cnB n C.2.2.2.2.1 (zgood b hb) rfl rfl rfl (C.2.2.2.2.2.2.2.2.2.2.2.1.2.2.2.2.1 _ hlink) (C.2.2.2.2.1 _ M.1) (by rw [← hnp]; exact M.2.2.2.2.1) hR, C.2.2.2.2.1 _ (M.2.2.2.2.2.1 hkd), trivial⟩ hpre rfl hn hl.1 hstk (lv_room (by rw [zc_cats C.2.2.2.2.2.2.2.2.2.2.2.2.2.2.2.1]; exact hroom)) hd ⟨hc1, hs1⟩
    · obtain ⟨⟨e1, e2⟩, -⟩ := h9
      cases e1
      refine W.cs (cells' := r1.2.1.length - n0) (slots' := zsl r1.2.1 - z0) (by have a3 := gm.1; omega) (by have a3 := gm.2; omega) ?_
      have g2 := g.2 t.heap locs1 rl (Nat.le_trans h1 gm.1) (Nat.le_trans h2 gm.2) e2 hS1 hl hL
      have e3 : st'.map (zc s0 ov) = (r1.1.map (zc s0 ov)).toList ++ ((st.drop n).map (zc s0 ov)) := by
        rw [hst', List.map_append]
        congr 1
        cases r1.1 <;> rfl
      rw [e3] at g2
      exact g2
  · cases h
/-- the receiver of a call -/
theorem zs_recv (C : zCx X s0 ov cA D n0 z0 res m p R s mid args meth c) {b : Nat} {v : Value} {r y : Option zv_R} {H : Heap} {locs : List Loc} {q : zv_R} (hb : b < 209) (h : zv_rcv b v μ r = some q) (hP : va_P D vwCl (zws s0 cA μ) H) (hS : va_S (fun q => s0 ≤ q) s.heap H locs) : ∃ a, zc s0 ov v = .ref a ∧ ∃ cell : Cell, H[a]? = some cell ∧ cell.vm.isStatics = false ∧ s.vm.findClass (zv_mn b).cls = some cell.cls := by
  have M := zmeth b hb
  unfold zv_rcv at h
  split at h
  · rename_i a
    obtain ⟨hsh, -⟩ := zob_spec h
    refine ⟨s0 + a, rfl, ?_⟩
    have hq : ∃ r9, vwCl[(zv_mi b).2.2.1]? = some r9 ∧ r9.1 = zv_cn (zv_mi b).2.2.1 := by
      obtain ⟨r9, h1, -⟩ := hP a _ (zws_ob hsh)
      refine ⟨r9, h1, ?_⟩
      have hlt : (zv_mi b).2.2.1 < 13 := (List.getElem?_eq_some_iff.mp h1).1
      obtain ⟨Cn, Tn, tyn, K9⟩ := zk_all _ hlt
      have e := Option.some.inj (h1.symm.trans K9.1)
      rw [e]
      exact K9.2.2.2.2.2.2.2.2
    obtain ⟨r9, h1, h2⟩ := hq
    have h3 := va_recv C.2.2.2.2.2.2.2.2.2.2.1 hP h1 (zws_ob hsh)
    rw [h2] at h3
    rw [M.2.1]
    exact h3
  · rename_i i
    split at h
    · rename_i hi
      obtain ⟨t, b9, q1, -, q3, -⟩ := C.2.2.2.2.2.2.2.2.2.2.2.1.2.1 (i - 20) (by omega)
      have e1 : 20 + (i - 20) = i := by omega
      rw [e1] at q1
      refine ⟨t, q1, ?_⟩
      rw [M.2.1, hi.2.2]
      exact va_Orecv q3 hS
    · cases h
  · cases h
theorem zs_cV (C : zCx X s0 ov cA D n0 z0 res m p R s mid args meth c) {K : zv_C → Option zv_R} (hCall : ∀ (b : Nat) (as : List Value) (μ : zv_M) (r : zv_R), K (b, 0, zv_ent b as, [], μ) = some r → b < 209 → (zv_flt as).length ≤ (zv_mi b).1 → (μ.1.length ≤ r.2.1.length ∧ zsl μ.1 ≤ zsl r.2.1) ∧ zMet l X s0 ov cA D b as μ r) {idx b n rk : Nat} (hd : decode (zv_mb m) pc = .ok (.invokevirtual idx, 3)) (hc : zmc m idx [b, n, rk] = true) (h : zv_cV m 1 K b n rk st μ (fun st μ => k ls st μ) = some res) (hk : ∀ ls st μ, k ls st μ = some res → zW X s0 ov cA D n0 z0 res m p l e R s mid args below meth c Q (pc + 3) ls st μ) : zW X s0 ov cA D n0 z0 res m p l e R s mid args below meth c Q pc ls st μ := by
  unfold zv_cV at h
  split at h
  · rename_i rv rest hrv
    split at h
    · rename_i hq
      obtain ⟨hq1, hfit⟩ := hq
      have hrc := h
      obtain ⟨h, -⟩ := zrcv_spec h
      obtain ⟨r1, st', hr1, hk2, hst', -⟩ := zbk_spec h
      have hb9 : b ≠ 998 := by
        intro e
        subst e
        revert hfit
        unfold zv_fit
        have e9 : zv_mi 998 = (0, 0, 99, 0, 0, 9, 0) := by decide +kernel
        rw [e9]
        simp
      obtain ⟨hb, hlink⟩ := zlink hc hb9
      obtain ⟨hR, hroom, hflt, hkd, hnp⟩ := zs_CB (μ := μ) (r1 := r1) (idx := idx) C hb hfit
      have M := zmeth b hb
      have g := hk _ _ _ hk2
      obtain ⟨gm, hMet⟩ := hCall b _ μ r1 hr1 hb hflt
      refine ⟨⟨Nat.le_trans gm.1 g.1.1, Nat.le_trans gm.2 g.1.2⟩, fun H locs rl h1 h2 hP hS hl hL => ?_⟩
      have hc1 : μ.1.length - n0 + (r1.2.1.length - μ.1.length) ≤ R.cells := by
        have a1 := g.1.1
        have a2 := C.2.2.2.2.2.2.2.2.2.2.2.2.2.1
        have a3 := gm.1
        omega
      have hs1 : zsl μ.1 - z0 + (zsl r1.2.1 - zsl μ.1) ≤ R.slots := by
        have a1 := g.1.2
        have a2 := C.2.2.2.2.2.2.2.2.2.2.2.2.2.2.1
        have a3 := gm.2
        omega
      refine W_have (P := H.size = s0 + μ.1.length) (fun T hT X9 => by
        have := X9.heapSize
        rw [hT, C.2.2.2.2.2.2.2.2.2.2.2.2.1] at this
        exact zHsz hP hS (by rw [C.2.2.2.2.2.2.2.2.2.2.2.2.1]; exact Nat.le_add_right _ _) (by omega)) (fun hsz => ?_)
      refine zcallW (mc := r1.2.1.length - μ.1.length) (ms := zsl r1.2.1 - zsl μ.1) (rest := (rest.map (zc s0 ov))) (Qa := zPost s0 ov cA D r1 ((zc s0 ov rv :: (st.take n).reverse.map (zc s0 ov))).toArray) ?_ hS (fun st v t h9 => h9.2) (fun v st₀ t locs1 h9 hS1 => ?_)
      · obtain ⟨a, ea, hcell⟩ := zs_recv (y := none) C hb hrc hP hS
        have hn : ((st.take n).reverse.map (zc s0 ov)).length = n := by simp [Nat.min_eq_left hq1]
        have hstk : st.map (zc s0 ov) = ((st.take n).reverse.map (zc s0 ov)).reverse ++ .ref a :: rest.map (zc s0 ov) := by
          rw [← List.map_reverse, List.reverse_reverse, ← ea, ← List.map_cons, ← hrv, ← List.map_append, List.take_append_drop]
        rw [ea]
        have hMet : Met l (zv_mn b) (zv_ws b) (zv_rm b μ r1) (va_Pc (.ref a :: (st.take n).reverse.map (zc s0 ov)) (zPre X s0 ov cA D μ)) (zPost s0 ov cA D r1) (r1.2.1.length - μ.1.length) (zsl r1.2.1 - zsl μ.1) (fun q => s0 ≤ q) := by
          have h9 := hMet
          unfold zMet at h9
          rw [List.map_cons, ea] at h9
          exact h9
        have hpre : PreV s H (zv_mn b).cls a (va_Pc (.ref a :: (st.take n).reverse.map (zc s0 ov)) (zPre X s0 ov cA D μ)) ((st.take n).reverse.map (zc s0 ov)) := ⟨zPc_blind, hcell, fun U hU hW => ⟨rfl, zPre_at C.2.2.2.2.2.2.2.2.2.2.2.1 C.2.2.2.2.2.2.2.2.2.2.1 hP hS hsz hU hW⟩⟩
        rcases hlink with hlink | hlink
        · exact va_runV (n := n) (C := (zv_mn b).cls) ⟨C.1, C.2.1, C.2.2.1, C.2.2.2.1, C.2.2.2.2.1⟩ hMet ⟨callB_of n C.2.2.2.2.1 (zgood b hb) rfl rfl rfl (C.2.2.2.2.1 _ M.1) (C.2.2.2.2.1 _ hlink) (by rw [← hnp]; exact M.2.2.2.2.1) hR, C.2.2.2.2.1 _ (M.2.2.2.2.2.2.1 hkd).1, C.2.2.2.2.1 _ (M.2.2.2.2.2.2.1 hkd).2⟩ hpre rfl hn hl.1 hstk (lv_room (by rw [zc_cats C.2.2.2.2.2.2.2.2.2.2.2.2.2.2.2.1]; exact hroom)) hd ⟨hc1, hs1⟩
        · exact va_runVN (n := n) (C := (zv_mn b).cls) (host := "GuessedPlace") ⟨C.1, C.2.1, C.2.2.1, C.2.2.2.1, C.2.2.2.2.1⟩ hMet ⟨va_cnB n C.2.2.2.2.1 (zgood b hb) rfl rfl rfl (C.2.2.2.2.2.2.2.2.2.2.2.1.2.2.2.2.1 _ hlink) (C.2.2.2.2.1 _ M.1) (by rw [← hnp]; exact M.2.2.2.2.1) hR, C.2.2.2.2.1 _ (M.2.2.2.2.2.2.1 hkd).1, C.2.2.2.2.1 _ (M.2.2.2.2.2.2.1 hkd).2⟩ hpre rfl hn hl.1 hstk (lv_room (by rw [zc_cats C.2.2.2.2.2.2.2.2.2.2.2.2.2.2.2.1]; exact hroom)) hd ⟨hc1, hs1⟩
      · obtain ⟨⟨e1, e2⟩, -⟩ := h9
        cases e1
        refine W.cs (cells' := r1.2.1.length - n0) (slots' := zsl r1.2.1 - z0) (by have a3 := gm.1; omega) (by have a3 := gm.2; omega) ?_
        have g2 := g.2 t.heap locs1 rl (Nat.le_trans h1 gm.1) (Nat.le_trans h2 gm.2) e2 hS1 hl hL
        have e3 : st'.map (zc s0 ov) = (r1.1.map (zc s0 ov)).toList ++ (rest.map (zc s0 ov)) := by
          rw [hst', List.map_append]
          congr 1
          cases r1.1 <;> rfl
        rw [e3] at g2
        exact g2
    · cases h
  · cases h
theorem zs_cI (C : zCx X s0 ov cA D n0 z0 res m p R s mid args meth c) {K : zv_C → Option zv_R} (hCall : ∀ (b : Nat) (as : List Value) (μ : zv_M) (r : zv_R), K (b, 0, zv_ent b as, [], μ) = some r → b < 209 → (zv_flt as).length ≤ (zv_mi b).1 → (μ.1.length ≤ r.2.1.length ∧ zsl μ.1 ≤ zsl r.2.1) ∧ zMet l X s0 ov cA D b as μ r) {idx b n rk : Nat} (hd : decode (zv_mb m) pc = .ok (.invokespecial idx, 3)) (hc : zmc m idx [b, n, rk] = true) (h : zv_cV m 2 K b n rk st μ (fun st μ => k ls st μ) = some res) (hk : ∀ ls st μ, k ls st μ = some res → zW X s0 ov cA D n0 z0 res m p l e R s mid args below meth c Q (pc + 3) ls st μ) : zW X s0 ov cA D n0 z0 res m p l e R s mid args below meth c Q pc ls st μ := by
  unfold zv_cV at h
  split at h
  · rename_i rv rest hrv
    split at h
    · rename_i hq
      obtain ⟨hq1, hfit⟩ := hq
      have hrc := h
      obtain ⟨h, -⟩ := zrcv_spec h
      obtain ⟨r1, st', hr1, hk2, hst', -⟩ := zbk_spec h
      have hb9 : b ≠ 998 := by
        intro e
        subst e
        revert hfit
        unfold zv_fit
        have e9 : zv_mi 998 = (0, 0, 99, 0, 0, 9, 0) := by decide +kernel
        rw [e9]
        simp
      obtain ⟨hb, hlink⟩ := zlink hc hb9
      obtain ⟨hR, hroom, hflt, hkd, hnp⟩ := zs_CB (μ := μ) (r1 := r1) (idx := idx) C hb hfit
      have M := zmeth b hb
      have g := hk _ _ _ hk2
      obtain ⟨gm, hMet⟩ := hCall b _ μ r1 hr1 hb hflt
      refine ⟨⟨Nat.le_trans gm.1 g.1.1, Nat.le_trans gm.2 g.1.2⟩, fun H locs rl h1 h2 hP hS hl hL => ?_⟩
      have hc1 : μ.1.length - n0 + (r1.2.1.length - μ.1.length) ≤ R.cells := by
        have a1 := g.1.1
        have a2 := C.2.2.2.2.2.2.2.2.2.2.2.2.2.1
        have a3 := gm.1
        omega
      have hs1 : zsl μ.1 - z0 + (zsl r1.2.1 - zsl μ.1) ≤ R.slots := by
        have a1 := g.1.2
        have a2 := C.2.2.2.2.2.2.2.2.2.2.2.2.2.2.1
        have a3 := gm.2
        omega
      refine W_have (P := H.size = s0 + μ.1.length) (fun T hT X9 => by
        have := X9.heapSize
        rw [hT, C.2.2.2.2.2.2.2.2.2.2.2.2.1] at this
        exact zHsz hP hS (by rw [C.2.2.2.2.2.2.2.2.2.2.2.2.1]; exact Nat.le_add_right _ _) (by omega)) (fun hsz => ?_)
      refine zcallW (mc := r1.2.1.length - μ.1.length) (ms := zsl r1.2.1 - zsl μ.1) (rest := (rest.map (zc s0 ov))) (Qa := zPost s0 ov cA D r1 ((zc s0 ov rv :: (st.take n).reverse.map (zc s0 ov))).toArray) ?_ hS (fun st v t h9 => h9.2) (fun v st₀ t locs1 h9 hS1 => ?_)
      · obtain ⟨a, ea, hcell⟩ := zs_recv (y := none) C hb hrc hP hS
        have hn : ((st.take n).reverse.map (zc s0 ov)).length = n := by simp [Nat.min_eq_left hq1]
        have hstk : st.map (zc s0 ov) = ((st.take n).reverse.map (zc s0 ov)).reverse ++ .ref a :: rest.map (zc s0 ov) := by
          rw [← List.map_reverse, List.reverse_reverse, ← ea, ← List.map_cons, ← hrv, ← List.map_append, List.take_append_drop]
        rw [ea]
        have hMet : Met l (zv_mn b) (zv_ws b) (zv_rm b μ r1) (va_Pc (.ref a :: (st.take n).reverse.map (zc s0 ov)) (zPre X s0 ov cA D μ)) (zPost s0 ov cA D r1) (r1.2.1.length - μ.1.length) (zsl r1.2.1 - zsl μ.1) (fun q => s0 ≤ q) := by
          have h9 := hMet
          unfold zMet at h9
          rw [List.map_cons, ea] at h9
          exact h9
        have hpre : PreS s H (va_Pc (.ref a :: (st.take n).reverse.map (zc s0 ov)) (zPre X s0 ov cA D μ)) (.ref a :: (st.take n).reverse.map (zc s0 ov)) := ⟨zPc_blind, fun U hU hW => ⟨rfl, zPre_at C.2.2.2.2.2.2.2.2.2.2.2.1 C.2.2.2.2.2.2.2.2.2.2.1 hP hS hsz hU hW⟩⟩
        have M2 := M.2.2.2.2.2.2.2 hkd
        have ews : zv_ws b = Cond.code (zv_mn b) (zv_mb b) (zv_mi b).1 none :: zv_gw := by
          unfold zv_ws zmcd
          rw [M2.2.2]
        rcases hlink with hlink | hlink
        · exact va_runI (n := n) (maxL := (zv_mi b).1) (bytes := zv_mb b) ⟨C.1, C.2.1, C.2.2.1, C.2.2.2.1, C.2.2.2.2.1⟩ hMet ⟨callB_of n C.2.2.2.2.1 (zgood b hb) ews rfl rfl (C.2.2.2.2.1 _ M.1) (C.2.2.2.2.1 _ hlink) (by rw [← hnp]; exact M.2.2.2.2.1) hR, M2.2.1, C.2.2.2.2.1 _ M2.1⟩ hpre rfl hn hl.1 hstk (lv_room (by rw [zc_cats C.2.2.2.2.2.2.2.2.2.2.2.2.2.2.2.1]; exact hroom)) hd ⟨hc1, hs1⟩
        · exact va_runIN (n := n) (maxL := (zv_mi b).1) (bytes := zv_mb b) (host := "GuessedPlace") ⟨C.1, C.2.1, C.2.2.1, C.2.2.2.1, C.2.2.2.2.1⟩ hMet ⟨va_cnB n C.2.2.2.2.1 (zgood b hb) ews rfl rfl (C.2.2.2.2.2.2.2.2.2.2.2.1.2.2.2.2.1 _ hlink) (C.2.2.2.2.1 _ M.1) (by rw [← hnp]; exact M.2.2.2.2.1) hR, M2.2.1, C.2.2.2.2.1 _ M2.1⟩ hpre rfl hn hl.1 hstk (lv_room (by rw [zc_cats C.2.2.2.2.2.2.2.2.2.2.2.2.2.2.2.1]; exact hroom)) hd ⟨hc1, hs1⟩
      · obtain ⟨⟨e1, e2⟩, -⟩ := h9
        cases e1
        refine W.cs (cells' := r1.2.1.length - n0) (slots' := zsl r1.2.1 - z0) (by have a3 := gm.1; omega) (by have a3 := gm.2; omega) ?_
        have g2 := g.2 t.heap locs1 rl (Nat.le_trans h1 gm.1) (Nat.le_trans h2 gm.2) e2 hS1 hl hL
        have e3 : st'.map (zc s0 ov) = (r1.1.map (zc s0 ov)).toList ++ (rest.map (zc s0 ov)) := by
          rw [hst', List.map_append]
          congr 1
          cases r1.1 <;> rfl
        rw [e3] at g2
        exact g2
    · cases h
  · cases h
end ZCALL
