/-! THE REAL HEAP AND THE SMALL MEMORY: cell k lies at s0 + k -/
def zc (s0 : Nat) (ov : Nat → Value) (v : Value) : Value := match v with
  | .ref k => .ref (s0 + k)
  | .retAddr i => ov i
  | w => w
/-- kinds of the fields of each made kind: 0 int, 1 long, 2 reference, 3 boolean -/
def zv_ft : List (List Nat) := [[2, 2, 0, 0], [2, 2, 0, 0], [2, 2, 1, 1], [2], [2, 2, 0], [2, 0, 0, 0, 2, 2, 2, 2], [2, 2, 0, 2, 0], [2, 2, 0, 0, 1, 1], [2, 0, 0, 2, 0], [2, 2, 0, 2, 0, 2, 2, 2], [2, 0, 2, 2, 0, 0, 2, 2, 2, 0], [2, 2, 3, 2, 2, 2, 2, 2], [2, 2, 2, 3, 2, 2, 2, 0, 0, 0, 0, 0, 0, 0, 0, 0, 0, 2, 2, 2, 2, 2, 2, 2, 2, 0, 1, 1, 1, 1, 0, 2, 2]]
def zv_fs (c : Nat) : List Nat := match zv_ft[c]? with
  | some l => l
  | none => []
def zfv (s0 : Nat) (μ : zv_M) (k t j : Nat) : Value := match t with
  | 0 => .int (μ.2.1 k j)
  | 1 => .long (μ.2.2.1 k j)
  | 2 => va_rf ((μ.2.2.2 k j).map (fun x => s0 + x))
  | 3 => .int (μ.2.1 k j)
  | _ => .null
def zdt (s0 : Nat) (μ : zv_M) (k t : Nat) : (Nat → Int32) ⊕ (Nat → Int64) ⊕ (Nat → UInt32) ⊕ (Nat → UInt64) ⊕ (Nat → Option Nat) :=
  if t = 1 then .inr (.inl (μ.2.2.1 k)) else if 4 ≤ t then .inr (.inr (.inr (.inr (fun j => (μ.2.2.2 k j).map (fun x => s0 + x))))) else .inl (μ.2.1 k)
def zw (s0 : Nat) (cA : Nat → ClassId) (μ : zv_M) (k : Nat) : va_E := match μ.1[k]? with
  | some (.inl (t, n)) => .inl (cA t, n, zdt s0 μ k t)
  | some (.inr c) => .inr (c, (List.range (zv_fs c).length).map (fun j => zfv s0 μ k ((zv_fs c).getD j 9) j))
  | none => .inr (99, [])
def zws (s0 : Nat) (cA : Nat → ClassId) (μ : zv_M) : va_W := (List.range μ.1.length).map (fun k => (s0 + k, zw s0 cA μ k))
def zsz : (Nat × Nat) ⊕ Nat → Nat
  | .inl q => q.2
  | .inr c => (zv_fs c).length
def zsl : List ((Nat × Nat) ⊕ Nat) → Nat
  | [] => 0
  | a :: r => zsz a + zsl r
def zal (s0 : Nat) (ov : Nat → Value) (ls : zv_L) : List (Nat × Value) := (List.range ls.length).filterMap (fun j => match ls[j]? with
  | some (some v) => some (j, zc s0 ov v)
  | _ => none)
theorem zal_mem {s0 : Nat} {ov : Nat → Value} {ls : zv_L} {j : Nat} {u : Value} : (j, u) ∈ zal s0 ov ls ↔ ∃ v, ls[j]? = some (some v) ∧ u = zc s0 ov v := by
  unfold zal
  rw [List.mem_filterMap]
  constructor
  · rintro ⟨a, ha, h⟩
    split at h
    · rename_i v hv
      cases h
      exact ⟨v, hv, rfl⟩
    · cases h
  · rintro ⟨v, hv, rfl⟩
    refine ⟨j, List.mem_range.mpr ((List.getElem?_eq_some_iff.mp hv).1), ?_⟩
    rw [hv]
theorem zal_at {s0 : Nat} {ov : Nat → Value} {ls : zv_L} {rl : Array Slot} {nL j : Nat} {v : Value} (h : lv_has rl nL (zal s0 ov ls)) (hv : ls[j]? = some (some v)) : rl[j]? = some (.val (zc s0 ov v)) := h.2.2 (j, zc s0 ov v) (zal_mem.mpr ⟨v, hv, rfl⟩)
theorem zal_sub {s0 : Nat} {ov : Nat → Value} {ls : zv_L} {rl : Array Slot} {nL : Nat} {lv : List (Nat × Value)} (h : lv_has rl nL lv) (hs : ∀ j v, ls[j]? = some (some v) → (j, zc s0 ov v) ∈ lv) : lv_has rl nL (zal s0 ov ls) := ⟨h.1, h.2.1, fun q hq => by
  obtain ⟨j, u⟩ := q
  obtain ⟨v, h1, rfl⟩ := zal_mem.mp hq
  exact h.2.2 _ (hs j v h1)⟩
theorem zc_cat {s0 : Nat} {ov : Nat → Value} (ho : ∀ i, (ov i).category = 1) (v : Value) : (zc s0 ov v).category = v.category := by
  cases v <;> first | rfl | exact ho _
theorem zc_cats {s0 : Nat} {ov : Nat → Value} (ho : ∀ i, (ov i).category = 1) (l : List Value) : ((l.map (zc s0 ov)).map fun v => v.category).sum = (l.map fun v => v.category).sum := by
  rw [List.map_map]
  congr 1
  exact List.map_congr_left (fun v _ => zc_cat ho v)
theorem zws_get {s0 : Nat} {cA : Nat → ClassId} {μ : zv_M} {k : Nat} (h : k < μ.1.length) : (zws s0 cA μ)[k]? = some (s0 + k, zw s0 cA μ k) := by
  unfold zws
  rw [List.getElem?_map, List.getElem?_range h]
  rfl
theorem zws_len {s0 : Nat} {cA : Nat → ClassId} {μ : zv_M} : (zws s0 cA μ).length = μ.1.length := by simp [zws]
theorem zws_inv {s0 : Nat} {cA : Nat → ClassId} {μ : zv_M} {k : Nat} {q : Nat × va_E} (h : (zws s0 cA μ)[k]? = some q) : k < μ.1.length ∧ q = (s0 + k, zw s0 cA μ k) := by
  have hl : k < μ.1.length := by
    have := (List.getElem?_eq_some_iff.mp h).1
    rwa [zws_len] at this
  rw [zws_get hl] at h
  exact ⟨hl, (Option.some.inj h).symm⟩
theorem zws_D {s0 : Nat} {cA : Nat → ClassId} {μ : zv_M} : va_D (fun q => s0 ≤ q) (zws s0 cA μ) := by
  refine ⟨fun i j x y hx hy hxy => ?_, fun k q hk => ?_⟩
  · obtain ⟨-, rfl⟩ := zws_inv hx
    obtain ⟨-, rfl⟩ := zws_inv hy
    have h9 : s0 + i = s0 + j := hxy
    omega
  · obtain ⟨-, rfl⟩ := zws_inv hk
    exact Nat.le_add_right _ _
/-- two memories that differ at most in the cell k -/
def zoff (μ μ' : zv_M) (k : Nat) : Prop := μ'.1 = μ.1 ∧ ∀ j, j ≠ k → μ'.2.1 j = μ.2.1 j ∧ μ'.2.2.1 j = μ.2.2.1 j ∧ μ'.2.2.2 j = μ.2.2.2 j
theorem zw_same {s0 : Nat} {cA : Nat → ClassId} {μ μ' : zv_M} {j : Nat} (h0 : μ'.1[j]? = μ.1[j]?) (h1 : μ'.2.1 j = μ.2.1 j) (h2 : μ'.2.2.1 j = μ.2.2.1 j) (h3 : μ'.2.2.2 j = μ.2.2.2 j) : zw s0 cA μ' j = zw s0 cA μ j := by
  unfold zw
  rw [h0]
  split
  · simp only [zdt, h1, h2, h3]
  · congr 2
    apply List.map_congr_left
    intro i _
    unfold zfv
    split <;> simp only [h1, h2, h3]
  · rfl
theorem zws_set {s0 : Nat} {cA : Nat → ClassId} {μ μ' : zv_M} {k : Nat} {e : va_E} (h : zoff μ μ' k) (he : zw s0 cA μ' k = e) : (zws s0 cA μ).set k (s0 + k, e) = zws s0 cA μ' := by
  subst he
  apply List.ext_getElem?
  intro j
  have hlen : μ'.1.length = μ.1.length := by rw [h.1]
  by_cases hj : j < μ.1.length
  · rw [zws_get (by rw [hlen]; exact hj)]
    by_cases hk : k = j
    · subst hk
      rw [List.getElem?_set_self (by rw [zws_len]; exact hj)]
    · rw [List.getElem?_set_ne hk, zws_get hj]
      obtain ⟨a1, a2, a3⟩ := h.2 j (Ne.symm hk)
      rw [zw_same (by rw [h.1]) a1 a2 a3]
  · rw [List.getElem?_eq_none (by rw [List.length_set, zws_len]; omega), List.getElem?_eq_none (by rw [zws_len]; omega)]
theorem zws_push {s0 : Nat} {cA : Nat → ClassId} {μ μ' : zv_M} {sh : (Nat × Nat) ⊕ Nat} (h0 : μ'.1 = μ.1 ++ [sh]) (h : ∀ j, j < μ.1.length → μ'.2.1 j = μ.2.1 j ∧ μ'.2.2.1 j = μ.2.2.1 j ∧ μ'.2.2.2 j = μ.2.2.2 j) : zws s0 cA μ' = zws s0 cA μ ++ [(s0 + μ.1.length, zw s0 cA μ' μ.1.length)] := by
  have hlen : μ'.1.length = μ.1.length + 1 := by rw [h0, List.length_append]; rfl
  apply List.ext_getElem?
  intro j
  by_cases hj : j < μ.1.length
  · rw [zws_get (by omega), List.getElem?_append_left (by rw [zws_len]; exact hj), zws_get hj]
    obtain ⟨a1, a2, a3⟩ := h j hj
    rw [zw_same (by rw [h0, List.getElem?_append_left hj]) a1 a2 a3]
  · by_cases hk : j = μ.1.length
    · subst hk
      rw [zws_get (by omega), List.getElem?_append_right (by rw [zws_len]; exact Nat.le_refl _), zws_len, Nat.sub_self]
      rfl
    · rw [List.getElem?_eq_none (by rw [zws_len]; omega), List.getElem?_eq_none (by rw [List.length_append, zws_len]; simp only [List.length_cons, List.length_nil]; omega)]
theorem zsl_app (a b : List ((Nat × Nat) ⊕ Nat)) : zsl (a ++ b) = zsl a + zsl b := by
  induction a with
  | nil => simp [zsl]
  | cons x r ih => simp only [List.cons_append, zsl, ih]; omega

