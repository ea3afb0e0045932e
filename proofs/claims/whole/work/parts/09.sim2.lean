section ZS2A
theorem zw_ob {s0 : Nat} {cA : Nat → ClassId} {μ : zv_M} {a c : Nat} (h : μ.1[a]? = some (.inr c)) : zw s0 cA μ a = .inr (c, (List.range (zv_fs c).length).map (fun j => zfv s0 μ a ((zv_fs c).getD j 9) j)) := by
  unfold zw
  rw [h]
theorem zw_ar {s0 : Nat} {cA : Nat → ClassId} {μ : zv_M} {a t n : Nat} (h : μ.1[a]? = some (.inl (t, n))) : zw s0 cA μ a = .inl (cA t, n, zdt s0 μ a t) := by
  unfold zw
  rw [h]
theorem zlt {μ : zv_M} {a : Nat} {q : (Nat × Nat) ⊕ Nat} (h : μ.1[a]? = some q) : a < μ.1.length := (List.getElem?_eq_some_iff.mp h).1
theorem zws_ob {s0 : Nat} {cA : Nat → ClassId} {μ : zv_M} {a c : Nat} (h : μ.1[a]? = some (.inr c)) : (zws s0 cA μ)[a]? = some (s0 + a, .inr (c, (List.range (zv_fs c).length).map (fun j => zfv s0 μ a ((zv_fs c).getD j 9) j))) := by
  rw [zws_get (zlt h), zw_ob h]
theorem zws_ar {s0 : Nat} {cA : Nat → ClassId} {μ : zv_M} {a t n : Nat} (h : μ.1[a]? = some (.inl (t, n))) : (zws s0 cA μ)[a]? = some (s0 + a, .inl (cA t, n, zdt s0 μ a t)) := by
  rw [zws_get (zlt h), zw_ar h]
theorem zob_spec {α : Type} {μ : zv_M} {c a : Nat} {r : Option α} {y : α} (h : zv_ob μ c a r = some y) : μ.1[a]? = some (.inr c) ∧ r = some y := by
  unfold zv_ob at h
  split at h
  · rename_i c' hc
    split at h
    · rename_i e
      subst e
      exact ⟨hc, h⟩
    · cases h
  · cases h
theorem zix_spec {α : Type} {μ : zv_M} {t a : Nat} {i : Int32} {k : Nat → Option α} {y : α} (h : zv_ix μ t a i k = some y) : ∃ n, μ.1[a]? = some (.inl (t, n)) ∧ vp_in i n ∧ k i.toNatClampNeg = some y := by
  unfold zv_ix at h
  split at h
  · rename_i t' n hc
    split at h
    · rename_i e
      subst e
      split at h
      · cases h
      · rename_i hi
        exact ⟨n, hc, hi, h⟩
    · cases h
  · cases h
theorem ziq_spec {α : Type} {μ : zv_M} {a : Nat} {i : Int32} {k : Nat → Option α} {y : α} (h : zv_iq μ a i k = some y) : ∃ t n, μ.1[a]? = some (.inl (t, n)) ∧ 4 ≤ t ∧ t < 7 ∧ vp_in i n ∧ k i.toNatClampNeg = some y := by
  unfold zv_iq at h
  split at h
  · rename_i t n hc
    split at h
    · cases h
    · rename_i e
      split at h
      · cases h
      · rename_i hi
        exact ⟨t, n, hc, by omega, by omega, hi, h⟩
  · cases h
theorem zox_spec {α : Type} {X : zv_X} {o : Nat} {i : Int32} {k : Int32 → Option α} {y : α} (h : zv_ox X o i k = some y) : vp_in i (zv_old X o).1 ∧ k ((zv_old X o).2 i.toNatClampNeg) = some y := by
  unfold zv_ox at h
  split at h
  · cases h
  · rename_i hi
    exact ⟨hi, h⟩
theorem zoff_I {μ : zv_M} {a : Nat} {f : Nat → Int32} : zoff μ (zv_wA μ a f) a := ⟨rfl, fun j hj => ⟨by simp [zv_wA, va_up, hj], rfl, rfl⟩⟩
theorem zoff_wI {μ : zv_M} {a j : Nat} {x : Int32} : zoff μ (zv_wI μ a j x) a := ⟨rfl, fun j hj => ⟨by simp [zv_wI, va_up, hj], rfl, rfl⟩⟩
theorem zoff_wL {μ : zv_M} {a j : Nat} {x : Int64} : zoff μ (zv_wL μ a j x) a := ⟨rfl, fun j hj => ⟨rfl, by simp [zv_wL, va_up, hj], rfl⟩⟩
theorem zoff_wP {μ : zv_M} {a j : Nat} {x : Option Nat} : zoff μ (zv_wP μ a j x) a := ⟨rfl, fun j hj => ⟨rfl, rfl, by simp [zv_wP, va_up, hj]⟩⟩
/-- the fields behind a write to one of them -/
theorem zfl_set {s0 : Nat} {cA : Nat → ClassId} {μ μ' : zv_M} {a c j : Nat} {v : Value} (h : μ.1[a]? = some (.inr c)) (h0 : μ'.1 = μ.1) (hj : j < (zv_fs c).length) (hv : zfv s0 μ' a ((zv_fs c).getD j 9) j = v) (ho : ∀ i, i ≠ j → i < (zv_fs c).length → zfv s0 μ' a ((zv_fs c).getD i 9) i = zfv s0 μ a ((zv_fs c).getD i 9) i) :
    zw s0 cA μ' a = .inr (c, ((List.range (zv_fs c).length).map (fun j => zfv s0 μ a ((zv_fs c).getD j 9) j)).set j v) := by
  rw [zw_ob (by rw [h0]; exact h)]
  congr 2
  apply List.ext_getElem?
  intro i
  by_cases hi : i < (zv_fs c).length
  · by_cases e : j = i
    · subst e
      rw [List.getElem?_set_self (by simpa using hi), List.getElem?_map, List.getElem?_range hi]
      simp only [Option.map_some, hv]
    · rw [List.getElem?_set_ne e, List.getElem?_map, List.getElem?_map, List.getElem?_range hi]
      simp only [Option.map_some, ho i (Ne.symm e) hi]
  · rw [List.getElem?_eq_none (by simpa using hi), List.getElem?_eq_none (by simpa using hi)]
end ZS2A
section ZS2
variable {X : zv_X} {s0 : Nat} {ov : Nat → Value} {cA : Nat → ClassId} {D : va_G} {n0 z0 : Nat} {res : zv_R} {m : Nat} {p : Program} {l : Launch} {e : Env} {R : Room} {s : State} {mid : MethodId} {args : Array Value} {below : List Frame} {meth : Method} {c : Code} {Q : State → Prop}
variable {pc : Nat} {d : List Nat} {ls : zv_L} {st : List Value} {μ : zv_M} {k : zv_L → List Value → zv_M → Option zv_R}
/-- what the words say at a field access -/
def zlf (m idx c j t : Nat) : Prop := (t < 4 → c < 13 ∧ j < (zv_fs c).length ∧ (zv_fs c).getD j 9 = t ∧ ∀ C T ty, zk_c c C T ty → Cond.fieldLink (zv_cn (zv_mi m).2.2.1) idx C (T j).2.1 (T j).2.2.1 ∈ zv_gw) ∧ (t = 8 → Cond.fieldLink (zv_cn (zv_mi m).2.2.1) idx "java/lang/String" "value" "[B" ∈ zv_gw) ∧ (t = 9 → Cond.fieldLink (zv_cn (zv_mi m).2.2.1) idx "java/lang/String" "coder" "B" ∈ zv_gw)
theorem zs_get1 (C : zCx X s0 ov cA D n0 z0 res m p R s mid args meth c) {idx a b j t : Nat} {H : Heap} {locs : List Loc} {rl : Array Slot} {rest : List Value} {cells slots : Nat} (hd : decode (zv_mb m) pc = .ok (.getfield idx, 3)) (hw : zlf m idx b j t) (ht : t < 4) (hsh : μ.1[a]? = some (.inr b)) (hP : va_P D vwCl (zws s0 cA μ) H)
    (kk : W p l e R s mid args below meth c H locs cells slots Q (F0 mid (pc + 3) rl (zfv s0 μ a t j :: rest))) : W p l e R s mid args below meth c H locs cells slots Q (F0 mid pc rl (.ref (s0 + a) :: rest)) := by
  obtain ⟨hc, hj, htj, hlk⟩ := hw.1 ht
  obtain ⟨Cn, Tn, tyn, K⟩ := zk_all b hc
  refine va_get (D := D) (ci := b) (C := Cn) (T := Tn) (N := (zv_fs b).length) (ref := Cn) C.1 C.2.1 C.2.2.2.2.1 K.2.2.1 C.2.2.2.1 C.2.2.2.2.2.2.2.2.2.2.1 hP a (zws_ob hsh) K.1 j hj (C.2.2.2.2.1 _ (hlk _ _ _ K)) (fun x9 h9 => by rw [K.2.1 j hj] at h9; exact h9) (v := zfv s0 μ a t j) ?_ hd kk
  rw [List.getElem?_map, List.getElem?_range hj]
  simp only [Option.map_some, htj]
theorem zs_getfield (C : zCx X s0 ov cA D n0 z0 res m p R s mid args meth c) {idx : Nat} (hd : decode (zv_mb m) pc = .ok (.getfield idx, 3)) (hw : ∀ b j t, d = [b, j, t] → zlf m idx b j t) (h : zv_op X (.getfield idx) d ls st μ k = some res) (hk : ∀ ls st μ, k ls st μ = some res → zW X s0 ov cA D n0 z0 res m p l e R s mid args below meth c Q (pc + 3) ls st μ) : zW X s0 ov cA D n0 z0 res m p l e R s mid args below meth c Q pc ls st μ := by
  change zv_get d st μ (fun v st => k ls (v :: st) μ) = some res at h
  unfold zv_get at h
  split at h
  · rename_i b j t a st
    have hwq := hw b j t rfl
    obtain ⟨hsh, h⟩ := zob_spec h
    split at h
    · have g := hk _ _ _ h
      exact ⟨g.1, fun H locs rl h1 h2 hP hS hl hL => zs_get1 C hd hwq (by decide) hsh hP (g.2 H locs rl h1 h2 hP hS hl hL)⟩
    · have g := hk _ _ _ h
      exact ⟨g.1, fun H locs rl h1 h2 hP hS hl hL => zs_get1 C hd hwq (by decide) hsh hP (g.2 H locs rl h1 h2 hP hS hl hL)⟩
    · split at h
      · rename_i q hq
        have g := hk _ _ _ h
        refine ⟨g.1, fun H locs rl h1 h2 hP hS hl hL => zs_get1 C hd hwq (by decide) hsh hP ?_⟩
        have e : zfv s0 μ a 2 j = .ref (s0 + q) := by simp [zfv, hq, va_rf]
        rw [e]
        exact g.2 H locs rl h1 h2 hP hS hl hL
      · cases h
    · have g := hk _ _ _ h
      exact ⟨g.1, fun H locs rl h1 h2 hP hS hl hL => zs_get1 C hd hwq (by decide) hsh hP (g.2 H locs rl h1 h2 hP hS hl hL)⟩
    · cases h
  · rename_i b j t i st
    have hwq := hw b j t rfl
    split at h
    · rename_i hi
      obtain ⟨tt, bb, q1, q2, q3, q4, q5, q6⟩ := C.2.2.2.2.2.2.2.2.2.2.2.1.2.1 (i - 20) (by omega)
      have e1 : 20 + (i - 20) = i := by omega
      have e2 : 50 + (i - 20) = i + 30 := by omega
      rw [e1] at q1
      rw [e2] at q2
      split at h
      · have g := hk _ _ _ h
        refine ⟨g.1, fun H locs rl h1 h2 hP hS hl hL => ?_⟩
        have g2 := g.2 H locs rl h1 h2 hP hS hl hL
        have e3 : zc s0 ov (.retAddr i) = .ref tt := q1
        have e4 : zc s0 ov (.retAddr (i + 30)) = .ref bb := q2
        rw [List.map_cons, e4] at g2
        rw [List.map_cons, e3]
        exact vk_getf C.1 C.2.1 q5 hS C.2.2.2.1 (C.2.2.2.2.1 _ (hwq.2.1 rfl)) (fun _ h9 => h9) hd g2
      · have g := hk _ _ _ h
        refine ⟨g.1, fun H locs rl h1 h2 hP hS hl hL => ?_⟩
        have g2 := g.2 H locs rl h1 h2 hP hS hl hL
        have e3 : zc s0 ov (.retAddr i) = .ref tt := q1
        rw [List.map_cons, e3]
        exact vk_getf C.1 C.2.1 q4 hS C.2.2.2.1 (C.2.2.2.2.1 _ (hwq.2.2 rfl)) (fun _ h9 => h9) hd g2
      · cases h
    · cases h
  · cases h
/-- and at a write: the field is no final one, or its own constructor writes it -/
def zlp (m b j : Nat) : Prop := ∀ C T ty, zk_c b C T ty → (T j).2.2.2 = false ∨ ((T j).2.2.2 = true ∧ (zv_mi m).2.2.2.2.2.1 = 2 ∧ C = zv_cn (zv_mi m).2.2.1)
theorem zs_put1 (C : zCx X s0 ov cA D n0 z0 res m p R s mid args meth c) {idx a b j t : Nat} {H : Heap} {locs : List Loc} {rl : Array Slot} {rest : List Value} {cells slots : Nat} {μ' : zv_M} {v : Value} (hd : decode (zv_mb m) pc = .ok (.putfield idx, 3)) (hw : zlf m idx b j t) (hp : zlp m b j) (ht : t < 4) (hsh : μ.1[a]? = some (.inr b)) (hP : va_P D vwCl (zws s0 cA μ) H) (hS : va_S (fun q => s0 ≤ q) s.heap H locs)
    (hv : ∀ ty, zty t ty → narrow ty v = v ∧ fits ty v = true) (hoff : zoff μ μ' a) (hval : zfv s0 μ' a t j = v) (hoth : ∀ i, i ≠ j → ∀ t', zfv s0 μ' a t' i = zfv s0 μ a t' i)
    (kk : ∀ (H1 : Heap) (locs1 : List Loc), va_P D vwCl (zws s0 cA μ') H1 → va_S (fun q => s0 ≤ q) s.heap H1 locs1 → W p l e R s mid args below meth c H1 locs1 cells slots Q (F0 mid (pc + 3) rl rest)) : W p l e R s mid args below meth c H locs cells slots Q (F0 mid pc rl (v :: .ref (s0 + a) :: rest)) := by
  obtain ⟨hc, hj, htj, hlk⟩ := hw.1 ht
  obtain ⟨Cn, Tn, tyn, K⟩ := zk_all b hc
  have hty : zty t (tyn j) := by
    have := K.2.2.2.2.2.1 j hj
    rwa [htj] at this
  obtain ⟨hn, hf⟩ := hv _ hty
  have hset := zws_set (cA := cA) hoff (zfl_set (cA := cA) (v := v) hsh hoff.1 hj (by rw [htj]; exact hval) (fun i h1 _ => hoth i h1 _))
  rcases hp _ _ _ K with hfin | ⟨hfin, hkd, hown⟩
  · refine va_put (D := D) (ci := b) (C := Cn) (T := Tn) (N := (zv_fs b).length) (ref := Cn) C.1 C.2.1 C.2.2.2.2.1 K.2.2.1 tyn K.2.2.2.2.1 K.2.2.2.1 C.2.2.2.1 C.2.2.2.2.2.2.2.2.2.2.1 hP zws_D hS a (zws_ob hsh) K.1 j hj (C.2.2.2.2.1 _ (hlk _ _ _ K)) (fun x9 h9 => by rw [K.2.1 j hj] at h9; exact h9) hfin (K.2.2.2.2.1 j hj) hn hf (by simpa using hj) hd (fun H1 locs1 hP1 _ hS1 => kk H1 locs1 ?_ hS1)
    rw [← hset]
    exact hP1
  · refine va_putF (D := D) (ci := b) (C := Cn) (T := Tn) (N := (zv_fs b).length) (ref := Cn) C.1 C.2.1 C.2.2.2.2.1 K.2.2.1 tyn K.2.2.2.2.1 K.2.2.2.1 C.2.2.2.1 C.2.2.2.2.2.2.2.2.2.2.1 hP zws_D hS a (zws_ob hsh) K.1 j hj (C.2.2.2.2.1 _ (hlk _ _ _ K)) (fun x9 h9 => by rw [K.2.1 j hj] at h9; exact h9) hfin (C.2.2.2.2.2.2.2.1 hkd) (by rw [K.2.1 j hj]; exact hown) (K.2.2.2.2.1 j hj) hn hf (by simpa using hj) hd (fun H1 locs1 hP1 _ hS1 => kk H1 locs1 ?_ hS1)
    rw [← hset]
    exact hP1
theorem zfv_wI {s0 : Nat} {μ : zv_M} {a j i t : Nat} {x : Int32} (h : i ≠ j) : zfv s0 (zv_wI μ a j x) a t i = zfv s0 μ a t i := by
  unfold zfv
  split <;> simp [zv_wI, va_up, upd, h]
theorem zfv_wL {s0 : Nat} {μ : zv_M} {a j i t : Nat} {x : Int64} (h : i ≠ j) : zfv s0 (zv_wL μ a j x) a t i = zfv s0 μ a t i := by
  unfold zfv
  split <;> simp [zv_wL, va_up, vp_updL, h]
theorem zfv_wP {s0 : Nat} {μ : zv_M} {a j i t : Nat} {x : Option Nat} (h : i ≠ j) : zfv s0 (zv_wP μ a j x) a t i = zfv s0 μ a t i := by
  unfold zfv
  split <;> simp [zv_wP, va_up, h]
theorem zs_putfield (C : zCx X s0 ov cA D n0 z0 res m p R s mid args meth c) {idx : Nat} (hd : decode (zv_mb m) pc = .ok (.putfield idx, 3)) (hw : ∀ b j t, d = [b, j, t] → zlf m idx b j t ∧ zlp m b j) (h : zv_op X (.putfield idx) d ls st μ k = some res) (hk : ∀ ls st μ, k ls st μ = some res → zW X s0 ov cA D n0 z0 res m p l e R s mid args below meth c Q (pc + 3) ls st μ) : zW X s0 ov cA D n0 z0 res m p l e R s mid args below meth c Q pc ls st μ := by
  change zv_put d st μ (fun st μ => k ls st μ) = some res at h
  unfold zv_put at h
  split at h
  · rename_i b j t x a st
    have hwq := hw b j t rfl
    obtain ⟨hsh, h⟩ := zob_spec h
    split at h
    · have g := hk _ _ _ h
      exact ⟨g.1, fun H locs rl h1 h2 hP hS hl hL => zs_put1 C hd hwq.1 hwq.2 (by decide) hsh hP hS (fun ty hty => by
        rcases hty with ⟨-, rfl⟩ | ⟨h9, -⟩ | ⟨h9, -⟩ | ⟨h9, -⟩
        · exact ⟨rfl, rfl⟩
        · cases h9
        · cases h9
        · cases h9) zoff_wI (by simp [zfv, zv_wI, va_up, upd, zc]) (fun i hi t' => zfv_wI hi) (fun H1 locs1 hP1 hS1 => g.2 H1 locs1 rl h1 h2 hP1 hS1 hl hL)⟩
    · split at h
      · rename_i hx
        have g := hk _ _ _ h
        exact ⟨g.1, fun H locs rl h1 h2 hP hS hl hL => zs_put1 C hd hwq.1 hwq.2 (by decide) hsh hP hS (fun ty hty => by
          rcases hty with ⟨h9, -⟩ | ⟨h9, -⟩ | ⟨-, rfl⟩ | ⟨h9, -⟩
          · cases h9
          · cases h9
          · rcases hx with rfl | rfl <;> exact ⟨rfl, rfl⟩
          · cases h9) zoff_wI (by simp [zfv, zv_wI, va_up, upd, zc]) (fun i hi t' => zfv_wI hi) (fun H1 locs1 hP1 hS1 => g.2 H1 locs1 rl h1 h2 hP1 hS1 hl hL)⟩
      · cases h
    · cases h
  · rename_i b j t x a st
    have hwq := hw b j t rfl
    obtain ⟨hsh, h⟩ := zob_spec h
    split at h
    · have g := hk _ _ _ h
      exact ⟨g.1, fun H locs rl h1 h2 hP hS hl hL => zs_put1 C hd hwq.1 hwq.2 (by decide) hsh hP hS (fun ty hty => by
        rcases hty with ⟨h9, -⟩ | ⟨-, rfl⟩ | ⟨h9, -⟩ | ⟨h9, -⟩
        · cases h9
        · exact ⟨rfl, rfl⟩
        · cases h9
        · cases h9) zoff_wL (by simp [zfv, zv_wL, va_up, vp_updL, zc]) (fun i hi t' => zfv_wL hi) (fun H1 locs1 hP1 hS1 => g.2 H1 locs1 rl h1 h2 hP1 hS1 hl hL)⟩
    · cases h
  · rename_i b j t q a st
    have hwq := hw b j t rfl
    obtain ⟨hsh, h⟩ := zob_spec h
    split at h
    · have g := hk _ _ _ h
      exact ⟨g.1, fun H locs rl h1 h2 hP hS hl hL => zs_put1 C hd hwq.1 hwq.2 (by decide) hsh hP hS (fun ty hty => by
        rcases hty with ⟨h9, -⟩ | ⟨h9, -⟩ | ⟨h9, -⟩ | ⟨-, h9⟩
        · cases h9
        · cases h9
        · cases h9
        · rcases h9 with ⟨n, rfl⟩ | ⟨u, rfl⟩ <;> exact ⟨rfl, rfl⟩) zoff_wP (by simp [zfv, zv_wP, va_up, va_rf, zc]) (fun i hi t' => zfv_wP hi) (fun H1 locs1 hP1 hS1 => g.2 H1 locs1 rl h1 h2 hP1 hS1 hl hL)⟩
    · cases h
  · cases h
theorem zs_iaload (C : zCx X s0 ov cA D n0 z0 res m p R s mid args meth c) (hd : decode (zv_mb m) pc = .ok (.iaload, 1)) (h : zv_op X (.iaload) d ls st μ k = some res) (hk : ∀ ls st μ, k ls st μ = some res → zW X s0 ov cA D n0 z0 res m p l e R s mid args below meth c Q (pc + 1) ls st μ) : zW X s0 ov cA D n0 z0 res m p l e R s mid args below meth c Q pc ls st μ := by
  unfold zv_op at h
  dsimp only at h
  split at h
  · rename_i i a st
    obtain ⟨n, hsh, hin, h⟩ := zix_spec h
    have g := hk _ _ _ h
    exact ⟨g.1, fun H locs rl h1 h2 hP hS hl hL => va_iald C.1 C.2.1 C.2.2.2.2.2.2.2.2.2.2.1 hP a 0 (zws_ar hsh) rfl hin hd (g.2 H locs rl h1 h2 hP hS hl hL)⟩
  · rename_i i o st
    split at h
    · rename_i ho
      obtain ⟨hin, h⟩ := zox_spec h
      have g := hk _ _ _ h
      obtain ⟨t, q1, q2⟩ := C.2.2.2.2.2.2.2.2.2.2.2.1.1 o ho
      refine ⟨g.1, fun H locs rl h1 h2 hP hS hl hL => ?_⟩
      have e3 : zc s0 ov (.retAddr o) = .ref t := q1
      rw [List.map_cons, List.map_cons, e3]
      exact va_ti C.1 C.2.1 q2 hS hin rfl hd (g.2 H locs rl h1 h2 hP hS hl hL)
    · cases h
  · cases h
theorem zs_baload (C : zCx X s0 ov cA D n0 z0 res m p R s mid args meth c) (hd : decode (zv_mb m) pc = .ok (.baload, 1)) (h : zv_op X (.baload) d ls st μ k = some res) (hk : ∀ ls st μ, k ls st μ = some res → zW X s0 ov cA D n0 z0 res m p l e R s mid args below meth c Q (pc + 1) ls st μ) : zW X s0 ov cA D n0 z0 res m p l e R s mid args below meth c Q pc ls st μ := by
  unfold zv_op at h
  dsimp only at h
  split at h
  · rename_i i a st
    split at h
    · rename_i t
      split at h
      · rename_i ht
        obtain ⟨n, hsh, hin, h⟩ := zix_spec h
        have g := hk _ _ _ h
        rcases ht with rfl | rfl
        · exact ⟨g.1, fun H locs rl h1 h2 hP hS hl hL => va_bald C.1 C.2.1 C.2.2.2.2.2.2.2.2.2.2.1 hP a 2 (zws_ar hsh) rfl hin hd (g.2 H locs rl h1 h2 hP hS hl hL)⟩
        · exact ⟨g.1, fun H locs rl h1 h2 hP hS hl hL => va_zald C.1 C.2.1 C.2.2.2.2.2.2.2.2.2.2.1 hP a 3 (zws_ar hsh) rfl hin hd (g.2 H locs rl h1 h2 hP hS hl hL)⟩
      · cases h
    · cases h
  · rename_i i o st
    split at h
    · rename_i ho
      obtain ⟨hin, h⟩ := zox_spec h
      have g := hk _ _ _ h
      obtain ⟨t, b, -, q1, -, -, -, q2⟩ := C.2.2.2.2.2.2.2.2.2.2.2.1.2.1 (o - 50) (by omega)
      have e1 : 50 + (o - 50) = o := by omega
      rw [e1] at q1 q2
      refine ⟨g.1, fun H locs rl h1 h2 hP hS hl hL => ?_⟩
      have e3 : zc s0 ov (.retAddr o) = .ref b := q1
      rw [List.map_cons, List.map_cons, e3]
      exact va_tb C.1 C.2.1 q2 hS hin rfl hd (g.2 H locs rl h1 h2 hP hS hl hL)
    · cases h
  · cases h
theorem zs_laload (C : zCx X s0 ov cA D n0 z0 res m p R s mid args meth c) (hd : decode (zv_mb m) pc = .ok (.laload, 1)) (h : zv_op X (.laload) d ls st μ k = some res) (hk : ∀ ls st μ, k ls st μ = some res → zW X s0 ov cA D n0 z0 res m p l e R s mid args below meth c Q (pc + 1) ls st μ) : zW X s0 ov cA D n0 z0 res m p l e R s mid args below meth c Q pc ls st μ := by
  unfold zv_op at h
  dsimp only at h
  split at h
  · rename_i i a st
    obtain ⟨n, hsh, hin, h⟩ := zix_spec h
    have g := hk _ _ _ h
    exact ⟨g.1, fun H locs rl h1 h2 hP hS hl hL => va_lald C.1 C.2.1 C.2.2.2.2.2.2.2.2.2.2.1 hP a 1 (zws_ar hsh) rfl hin hd (g.2 H locs rl h1 h2 hP hS hl hL)⟩
  · cases h
theorem zs_aaload (C : zCx X s0 ov cA D n0 z0 res m p R s mid args meth c) (hd : decode (zv_mb m) pc = .ok (.aaload, 1)) (h : zv_op X (.aaload) d ls st μ k = some res) (hk : ∀ ls st μ, k ls st μ = some res → zW X s0 ov cA D n0 z0 res m p l e R s mid args below meth c Q (pc + 1) ls st μ) : zW X s0 ov cA D n0 z0 res m p l e R s mid args below meth c Q pc ls st μ := by
  unfold zv_op at h
  dsimp only at h
  split at h
  · rename_i i a st
    obtain ⟨t, n, hsh, ht1, ht2, hin, h⟩ := ziq_spec h
    split at h
    · rename_i q hq
      have g := hk _ _ _ h
      refine ⟨g.1, fun H locs rl h1 h2 hP hS hl hL => ?_⟩
      have hc := hP a _ (zws_ar hsh)
      have ed : zdt s0 μ a t = .inr (.inr (.inr (.inr (fun j => (μ.2.2.2 a j).map (fun x => s0 + x))))) := by
        unfold zdt
        rw [if_neg (by omega), if_pos ht1]
      rw [ed] at hc
      have hlt : i.toNatClampNeg < n := Nat.not_le.mp fun q => hin (Or.inr q)
      have hr : ∃ ty, (zv_tys cA)[t]? = some (cA t, ty) ∧ ty.isReference = true := by
        rcases (show t = 4 ∨ t = 5 ∨ t = 6 by omega) with rfl | rfl | rfl <;> exact ⟨_, rfl, rfl⟩
      obtain ⟨ty, ht, hrf⟩ := hr
      refine W.aald (v := .ref (s0 + q)) C.1 C.2.1 hc ((C.2.2.2.2.2.2.2.2.2.2.1.2 t _ ht).1 n (fun j => va_rf ((μ.2.2.2 a j).map (fun x => s0 + x)))) hrf (fun q => by cases q) (by show ¬ (i < 0 ∨ (arrV _ _ _).slots.size ≤ _); rw [arrV_size]; exact hin) (by show (arrV _ _ _).slots[_]? = _; rw [arrV_read _ _ hlt]; dsimp only; rw [hq]; rfl) rfl rfl hd (g.2 H locs rl h1 h2 hP hS hl hL)
    · cases h
  · cases h
theorem zs_iastore (C : zCx X s0 ov cA D n0 z0 res m p R s mid args meth c) (hd : decode (zv_mb m) pc = .ok (.iastore, 1)) (h : zv_op X (.iastore) d ls st μ k = some res) (hk : ∀ ls st μ, k ls st μ = some res → zW X s0 ov cA D n0 z0 res m p l e R s mid args below meth c Q (pc + 1) ls st μ) : zW X s0 ov cA D n0 z0 res m p l e R s mid args below meth c Q pc ls st μ := by
  unfold zv_op at h
  dsimp only at h
  split at h
  · rename_i x i a st
    obtain ⟨n, hsh, hin, h⟩ := zix_spec h
    have g := hk _ _ _ h
    refine ⟨g.1, fun H locs rl h1 h2 hP hS hl hL => va_iast C.1 C.2.1 C.2.2.2.2.2.2.2.2.2.2.1 hP zws_D hS a 0 (zws_ar hsh) rfl hin hd (fun H1 locs1 hP1 _ hS1 => g.2 H1 locs1 rl h1 h2 ?_ hS1 hl hL)⟩
    rw [← zws_set (e := .inl (cA 0, n, .inl (upd (μ.2.1 a) i.toNatClampNeg x))) zoff_wI (by rw [zw_ar (by exact hsh)]; simp [zdt, zv_wI, va_up])]
    exact hP1
  · cases h
theorem zs_bastore (C : zCx X s0 ov cA D n0 z0 res m p R s mid args meth c) (hd : decode (zv_mb m) pc = .ok (.bastore, 1)) (h : zv_op X (.bastore) d ls st μ k = some res) (hk : ∀ ls st μ, k ls st μ = some res → zW X s0 ov cA D n0 z0 res m p l e R s mid args below meth c Q (pc + 1) ls st μ) : zW X s0 ov cA D n0 z0 res m p l e R s mid args below meth c Q pc ls st μ := by
  unfold zv_op at h
  dsimp only at h
  split at h
  · rename_i x i a st t
    split at h
    · rename_i ht
      obtain ⟨n, hsh, hin, h⟩ := zix_spec h
      have g := hk _ _ _ h
      rcases ht with rfl | rfl
      · refine ⟨g.1, fun H locs rl h1 h2 hP hS hl hL => va_bast C.1 C.2.1 C.2.2.2.2.2.2.2.2.2.2.1 hP zws_D hS a 2 (zws_ar hsh) rfl hin hd (fun H1 locs1 hP1 _ hS1 => g.2 H1 locs1 rl h1 h2 ?_ hS1 hl hL)⟩
        rw [← zws_set (e := .inl (cA 2, n, .inl (upd (μ.2.1 a) i.toNatClampNeg (vp_nar .byte x)))) zoff_wI (by rw [zw_ar (by exact hsh)]; simp [zdt, zv_wI, va_up, zv_nar])]
        exact hP1
      · refine ⟨g.1, fun H locs rl h1 h2 hP hS hl hL => va_zast C.1 C.2.1 C.2.2.2.2.2.2.2.2.2.2.1 hP zws_D hS a 3 (zws_ar hsh) rfl hin hd (fun H1 locs1 hP1 _ hS1 => g.2 H1 locs1 rl h1 h2 ?_ hS1 hl hL)⟩
        rw [← zws_set (e := .inl (cA 3, n, .inl (upd (μ.2.1 a) i.toNatClampNeg (vp_nar .boolean x)))) zoff_wI (by rw [zw_ar (by exact hsh)]; simp [zdt, zv_wI, va_up, zv_nar])]
        exact hP1
    · cases h
  · cases h
theorem zs_lastore (C : zCx X s0 ov cA D n0 z0 res m p R s mid args meth c) (hd : decode (zv_mb m) pc = .ok (.lastore, 1)) (h : zv_op X (.lastore) d ls st μ k = some res) (hk : ∀ ls st μ, k ls st μ = some res → zW X s0 ov cA D n0 z0 res m p l e R s mid args below meth c Q (pc + 1) ls st μ) : zW X s0 ov cA D n0 z0 res m p l e R s mid args below meth c Q pc ls st μ := by
  unfold zv_op at h
  dsimp only at h
  split at h
  · rename_i x i a st
    obtain ⟨n, hsh, hin, h⟩ := zix_spec h
    have g := hk _ _ _ h
    refine ⟨g.1, fun H locs rl h1 h2 hP hS hl hL => va_last C.1 C.2.1 C.2.2.2.2.2.2.2.2.2.2.1 hP zws_D hS a 1 (zws_ar hsh) rfl hin hd (fun H1 locs1 hP1 _ hS1 => g.2 H1 locs1 rl h1 h2 ?_ hS1 hl hL)⟩
    rw [← zws_set (e := .inl (cA 1, n, .inr (.inl (vp_updL (μ.2.2.1 a) i.toNatClampNeg x)))) zoff_wL (by rw [zw_ar (by exact hsh)]; simp [zdt, zv_wL, va_up])]
    exact hP1
  · cases h
theorem zs_aastore (C : zCx X s0 ov cA D n0 z0 res m p R s mid args meth c) (hd : decode (zv_mb m) pc = .ok (.aastore, 1)) (h : zv_op X (.aastore) d ls st μ k = some res) (hk : ∀ ls st μ, k ls st μ = some res → zW X s0 ov cA D n0 z0 res m p l e R s mid args below meth c Q (pc + 1) ls st μ) : zW X s0 ov cA D n0 z0 res m p l e R s mid args below meth c Q pc ls st μ := by
  unfold zv_op at h
  dsimp only at h
  split at h
  · rename_i q i a st
    obtain ⟨n, hsh, hin, h⟩ := zix_spec h
    obtain ⟨hsq, h⟩ := zob_spec h
    have g := hk _ _ _ h
    refine ⟨g.1, fun H locs rl h1 h2 hP hS hl hL => va_astq (r := (RX5, TX5, 8)) C.1 C.2.1 C.2.2.2.2.2.2.2.2.2.2.1 hP zws_D hS a 4 q 5 (zws_ar hsh) rfl (zws_ob hsq) rfl hin hd (fun H1 locs1 hP1 _ hS1 => g.2 H1 locs1 rl h1 h2 ?_ hS1 hl hL)⟩
    rw [← zws_set (e := .inl (cA 4, n, .inr (.inr (.inr (.inr (va_up (fun j => (μ.2.2.2 a j).map (fun x => s0 + x)) i.toNatClampNeg (some (s0 + q)))))))) zoff_wP (by
      rw [zw_ar (by exact hsh)]
      have e : (fun j => ((zv_wP μ a i.toNatClampNeg (some q)).2.2.2 a j).map (fun x => s0 + x)) = va_up (fun j => (μ.2.2.2 a j).map (fun x => s0 + x)) i.toNatClampNeg (some (s0 + q)) := by
        funext j
        by_cases hj : j = i.toNatClampNeg
        · simp [zv_wP, va_up, hj]
        · simp [zv_wP, va_up, hj]
      simp only [zdt]
      rw [if_neg (by decide), if_pos (by decide), e])]
    exact hP1
  · cases h
theorem zs_arraylength (C : zCx X s0 ov cA D n0 z0 res m p R s mid args meth c) (hd : decode (zv_mb m) pc = .ok (.arraylength, 1)) (h : zv_op X (.arraylength) d ls st μ k = some res) (hk : ∀ ls st μ, k ls st μ = some res → zW X s0 ov cA D n0 z0 res m p l e R s mid args below meth c Q (pc + 1) ls st μ) : zW X s0 ov cA D n0 z0 res m p l e R s mid args below meth c Q pc ls st μ := by
  unfold zv_op at h
  dsimp only at h
  split at h
  · rename_i a st
    split at h
    · rename_i t n hsh
      split at h
      · rename_i ht
        have g := hk _ _ _ h
        refine ⟨g.1, fun H locs rl h1 h2 hP hS hl hL => ?_⟩
        have hr : ∃ ty, (zv_tys cA)[t]? = some (cA t, ty) := by
          rcases (show t = 0 ∨ t = 1 ∨ t = 2 ∨ t = 3 ∨ t = 4 ∨ t = 5 ∨ t = 6 by omega) with rfl | rfl | rfl | rfl | rfl | rfl | rfl <;> exact ⟨_, rfl⟩
        obtain ⟨ty, ht⟩ := hr
        exact va_alen C.1 C.2.1 C.2.2.2.2.2.2.2.2.2.2.1 hP a t (zws_ar hsh) ht rfl hd (g.2 H locs rl h1 h2 hP hS hl hL)
      · cases h
    · cases h
  · rename_i o st
    split at h
    · rename_i ho
      have g := hk _ _ _ h
      refine ⟨g.1, fun H locs rl h1 h2 hP hS hl hL => ?_⟩
      have g2 := g.2 H locs rl h1 h2 hP hS hl hL
      rcases ho with ho | ho
      · obtain ⟨t, q1, q2⟩ := C.2.2.2.2.2.2.2.2.2.2.2.1.1 o ho
        have e3 : zc s0 ov (.retAddr o) = .ref t := q1
        rw [List.map_cons, e3]
        exact va_tlen C.1 C.2.1 q2 hS rfl hd g2
      · obtain ⟨t, b, -, q1, -, -, -, q2⟩ := C.2.2.2.2.2.2.2.2.2.2.2.1.2.1 (o - 50) (by omega)
        have e1 : 50 + (o - 50) = o := by omega
        rw [e1] at q1 q2
        have e3 : zc s0 ov (.retAddr o) = .ref b := q1
        rw [List.map_cons, e3]
        exact va_tlen C.1 C.2.1 q2 hS rfl hd g2
    · cases h
  · cases h
end ZS2
