theorem zflt_at {s0 : Nat} {ov : Nat → Value} (ho : ∀ i, (ov i).category = 1) : ∀ (as : List Value) (i j : Nat) (v : Value), (zv_flt as)[j]? = some (some v) → (i + j, zc s0 ov v) ∈ lv_args i (as.map (zc s0 ov))
  | [], _, _, _, h => by cases h
  | w :: r, i, j, v, h => by
    rw [List.map_cons]
    unfold lv_args
    unfold zv_flt at h
    by_cases hc : w.category = 2
    · rw [if_pos hc] at h
      rw [if_pos (by rw [zc_cat ho]; exact hc)]
      match j, h with
      | 0, h =>
        cases h
        exact List.mem_cons_self
      | 1, h => cases h
      | j + 2, h =>
        have := zflt_at (s0 := s0) ho r (i + 2) j v h
        rw [show i + (j + 2) = i + 2 + j by omega]
        exact List.mem_cons_of_mem _ this
    · rw [if_neg hc] at h
      rw [if_neg (by rw [zc_cat ho]; exact hc)]
      match j, h with
      | 0, h =>
        cases h
        exact List.mem_cons_self
      | j + 1, h =>
        have := zflt_at (s0 := s0) ho r (i + 1) j v h
        rw [show i + (j + 1) = i + 1 + j by omega]
        exact List.mem_cons_of_mem _ this
theorem zflt_len {s0 : Nat} {ov : Nat → Value} (ho : ∀ i, (ov i).category = 1) : ∀ as : List Value, (lg_sl (as.map (zc s0 ov))).length = (zv_flt as).length
  | [] => rfl
  | w :: r => by
    have ih := zflt_len (s0 := s0) ho r
    unfold zv_flt
    have e : lg_sl ((w :: r).map (zc s0 ov)) = (if (zc s0 ov w).category = 2 then [.val (zc s0 ov w), .second] else [.val (zc s0 ov w)]) ++ lg_sl (r.map (zc s0 ov)) := rfl
    rw [e, zc_cat ho]
    by_cases hc : w.category = 2
    · rw [if_pos hc, if_pos hc]
      simp [ih]
    · rw [if_neg hc, if_neg hc]
      simp [ih]
theorem Met_ofW {l : Launch} {y : MethodName} {ws ws' : List Cond} {rm : Room} {Pc : Array Value → State → Prop} {Qc : Array Value → State → Outcome → State → Prop} {mc ms : Nat} {free : Addr → Prop} {cc : ByteArray} {maxL : Nat} {ret : Option FieldType} (hy : plainFor y = true) (hw : ws = Cond.code y cc maxL ret :: ws')
    (body : ∀ p e s m args below meth c s₁, BodyLoose p l y (headSpec ws rm) cc maxL ret e s m args below meth c s₁ → c.maxLocals = maxL → Pc args s → W p l e (headSpec ws rm).room s m args below meth c s.heap [] 0 0 (MQ below Qc args s mc ms free) (entryFrame m args maxL)) : Met l y ws rm Pc Qc mc ms free := by
  refine MetFree.of_bodySF (code := cc) (maxLocals := maxL) (ret := ret) hy ?_ ?_
  · intro args s m h hn
    obtain ⟨meth, c, h1, h2, h3, h4, h5, h6, -, -⟩ := Cond.code_spec hn (atoms_spec (ws := ws) h _ (by rw [hw]; exact List.mem_cons_self))
    exact ⟨meth, c, h1, h2, h3, h4, h5, h6⟩
  · intro p e s m args below meth c s₁ B hml hP _
    have hh0 : s₁.heap = s.heap := by rw [B.state]; rfl
    obtain ⟨t, a1, o, b1, b2, b3⟩ := body p e s m args below meth c s₁ B hml hP s₁ hh0 (Stand.of_body B)
    exact ⟨t, o, a1, b1, b2, ⟨b3.1, b3.2⟩⟩
theorem zmet_of {X : zv_X} {s0 : Nat} {ov : Nat → Value} {cA : Nat → ClassId} {D : va_G} {l : Launch} (hov : (∀ i, (ov i).category = 1) ∧ ∀ i, i ≠ 90 → ∃ t, ov i = .ref t) {n : Nat} (ih : ∀ {n0 z0 : Nat} {res : zv_R} {m : Nat} {p : Program} {e : Env} {R : Room} {s : State} {mid : MethodId} {args : Array Value} {below : List Frame} {meth : Method} {c : Code} {Q : State → Prop}, m < 210 → zCx X s0 ov cA D n0 z0 res m p R s mid args meth c → zRet s0 ov cA D n0 z0 res m p l e R s mid args below meth c Q → ∀ (lb : Nat) (ls : zv_L) (st : List Value) (μ : zv_M), zv_run X n (m, lb, ls, st, μ) = some res → zW X s0 ov cA D n0 z0 res m p l e R s mid args below meth c Q lb ls st μ) {b : Nat} {as : List Value} {μ : zv_M} {r : zv_R} (h : zv_run X n (b, 0, zv_ent b as, [], μ) = some r) (hb : b < 209) (hlen : (zv_flt as).length ≤ (zv_mi b).1) : (μ.1.length ≤ r.2.1.length ∧ zsl μ.1 ≤ zsl r.2.1) ∧ zMet l X s0 ov cA D b as μ r := by
  have gm := zrun_ge n _ _ h
  have M := zmeth b hb
  refine ⟨gm, ?_⟩
  unfold zMet
  refine Met_ofW (cc := zv_mb b) (maxL := (zv_mi b).1) (ret := zv_mr b) M.2.2.1 rfl ?_
  intro p e s mid args below meth c s₁ B hml hv
  obtain ⟨rfl, hsz, hP, hK, hG⟩ := hv
  have hts := atoms_spec (ws := zv_ws b) B.pre
  have hown : s.vm.findClass (zv_mn b).cls = some mid.cls := findClass_of_methodNamed B.named
  have C : zCx X s0 ov cA D μ.1.length (zsl μ.1) r b p (zv_rm b μ r) s mid (as.map (zc s0 ov)).toArray meth c := ⟨B.exec, B.bytes, hml, by rw [← M.2.1]; exact hown, fun w hw => hts w (List.mem_cons_of_mem _ hw), B.returns, B.notSynchronized, fun hk => by
      rw [(name_of_methodNamed B.named B.method).1]
      exact (M.2.2.2.2.2.2.2 hk).2.1, Nat.le_refl _, Nat.le_refl _, hK, hG, hsz, by
      show r.2.1.length ≤ μ.1.length + (r.2.1.length - μ.1.length)
      omega, by
      show zsl r.2.1 ≤ zsl μ.1 + (zsl r.2.1 - zsl μ.1)
      omega, hov⟩
  have hR : zRet s0 ov cA D μ.1.length (zsl μ.1) r b p l e (zv_rm b μ r) s mid (as.map (zc s0 ov)).toArray below meth c (MQ below (zPost s0 ov cA D r) (as.map (zc s0 ov)).toArray s (r.2.1.length - μ.1.length) (zsl r.2.1 - zsl μ.1) (fun q => s0 ≤ q)) := by
    intro pc H locs rl hP1 hS1 _ _ hd
    obtain ⟨v, μ'⟩ := r
    have hq : ∀ t : State, t.heap = H → s.WarmedH t.vm → zPost s0 ov cA D (v, μ') (as.map (zc s0 ov)).toArray s (.returned (v.map (zc s0 ov))) t := fun t ht hW => ⟨⟨rfl, by rw [ht]; exact hP1⟩, hS1.F ht⟩
    unfold zrd at hd
    dsimp only at hd hq ⊢
    split at hd
    · exact W.vret B.exec B.bytes (B.returns.trans hd.2) hq hS1.2.2 hd.1 B.notSynchronized
    · obtain ⟨hd, ty, h1, h2⟩ := hd
      exact W.zret B.exec B.bytes (B.returns.trans h1) h2 hq hS1.2.2 hd B.notSynchronized
    · exact W.lret B.exec B.bytes (B.returns.trans hd.2) hq hS1.2.2 hd.1 B.notSynchronized
    · obtain ⟨hd, h9, n9, h1⟩ := hd
      exact W.aret B.exec B.bytes (B.returns.trans h1) (Or.inl ⟨_, rfl⟩) (Or.inr (hov.2 _ h9)) hq hS1.2.2 hd B.notSynchronized
    · exact hd.elim
  have g := ih (by omega) C hR 0 _ _ _ h
  rw [lg_entry_eq]
  have hl := lv_entry (as.map (zc s0 ov)) (n := (zv_mi b).1) (by rw [zflt_len hov.1]; exact hlen)
  refine W.cs (cells' := μ.1.length - μ.1.length) (slots' := zsl μ.1 - zsl μ.1) (by omega) (by omega) ?_
  refine g.2 s.heap [] _ (Nat.le_refl _) (Nat.le_refl _) hP va_S.rf (zal_sub hl (fun j v hv => ?_)) ?_
  · have hj : (zv_flt as)[j]? = some (some v) := by
      unfold zv_ent at hv
      by_cases h9 : j < (zv_flt as).length
      · rwa [List.getElem?_append_left h9] at hv
      · rw [List.getElem?_append_right (by omega), List.getElem?_replicate] at hv
        split at hv <;> cases hv
    have := zflt_at (s0 := s0) hov.1 as 0 j v hj
    rwa [Nat.zero_add] at this
  · unfold zv_ent
    rw [List.length_append, List.length_replicate]
    omega
def zMNA : Prop := ∀ {X : zv_X} {s0 : Nat} {ov : Nat → Value} {cA : Nat → ClassId} {D : va_G} {n0 z0 : Nat} {res : zv_R} {m : Nat} {p : Program} {e : Env} {R : Room} {s : State} {mid : MethodId} {args : Array Value} {below : List Frame} {meth : Method} {c : Code} {Q : State → Prop} {l : Launch} (C : zCx X s0 ov cA D n0 z0 res m p R s mid args meth c) (pc idx dm : Nat) (d : List Nat) (ls : zv_L) (st : List Value) (μ : zv_M) (k : zv_L → List Value → zv_M → Option zv_R), zchk m (pc, .multianewarray idx dm, d) = true → zv_op X (.multianewarray idx dm) d ls st μ k = some res → (∀ ls st μ, k ls st μ = some res → zW X s0 ov cA D n0 z0 res m p l e R s mid args below meth c Q (pc + 4) ls st μ) → zW X s0 ov cA D n0 z0 res m p l e R s mid args below meth c Q pc ls st μ
theorem zrc_all (m : Nat) (hm : m < 210) : zrc (zv_mi m).2.1 (zv_mr m) = true := by
  by_cases h : m < 209
  · exact (zmeth m h).2.2.2.1
  · have e : m = 209 := by omega
    subst e
    decide +kernel
theorem zmain {X : zv_X} {s0 : Nat} {ov : Nat → Value} {cA : Nat → ClassId} {D : va_G} {l : Launch} (hov : (∀ i, (ov i).category = 1) ∧ ∀ i, i ≠ 90 → ∃ t, ov i = .ref t) (hblk : ∀ m, m < 210 → ∀ lb b, zv_blk m lb = some b → zchkb m (lb, b) = true) (hmna : zMNA) (n : Nat) : ∀ {n0 z0 : Nat} {res : zv_R} {m : Nat} {p : Program} {e : Env} {R : Room} {s : State} {mid : MethodId} {args : Array Value} {below : List Frame} {meth : Method} {c : Code} {Q : State → Prop}, m < 210 → zCx X s0 ov cA D n0 z0 res m p R s mid args meth c → zRet s0 ov cA D n0 z0 res m p l e R s mid args below meth c Q → ∀ (lb : Nat) (ls : zv_L) (st : List Value) (μ : zv_M), zv_run X n (m, lb, ls, st, μ) = some res → zW X s0 ov cA D n0 z0 res m p l e R s mid args below meth c Q lb ls st μ := by
  induction n with
  | zero =>
    intro n0 z0 res m p e R s mid args below meth c Q _ _ _ lb ls st μ h
    cases h
  | succ n ih =>
    intro n0 z0 res m p e R s mid args below meth c Q hm C hR lb ls st μ h
    have h : zv_step X (zv_run X n) (m, lb, ls, st, μ) = some res := h
    unfold zv_step at h
    split at h
    · rename_i b hb
      obtain ⟨a1, a2⟩ := zand (hblk m hm lb b hb)
      refine zs_exe C (zrc_all m hm) (fun l9 ls st μ h9 => ih hm C hR l9 ls st μ h9) (fun b as μ r h9 hb hl => zmet_of hov ih h9 hb hl) hR (fun pc idx dm d ls st μ k => hmna C pc idx dm d ls st μ k) b.2 lb ls st μ a1 (fun q r e => ?_) h
      dsimp only at a2
      rw [e] at a2
      exact of_decide_eq_true a2
    · cases h
