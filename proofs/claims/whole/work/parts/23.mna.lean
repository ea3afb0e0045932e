/-! new T[n][m] -/
def zm_o (cO : ClassId) (N h0 i : Nat) : Cell := arrV cO N (fun j => va_rf (if j < i then some (h0 + 1 + j) else none))
def zm_i (cI : ClassId) (M : Nat) (dv : Value) : Cell := arrV cI M (fun _ => dv)
def zm_f (T : State) (cO cI : ClassId) (N M : Nat) (dv : Value) : Nat → State
  | 0 => T.pushCell (zm_o cO N T.heap.size 0)
  | i + 1 => ((zm_f T cO cI N M dv i).pushCell (zm_i cI M dv)).setCell T.heap.size (zm_o cO N T.heap.size (i + 1))
theorem zm_o0 (cO : ClassId) (N h0 : Nat) : ({ cls := cO, slots := Array.replicate N .null, vm := .none } : Cell) = zm_o cO N h0 0 := by
  rw [arrV_new]
  unfold zm_o
  congr 1
  funext j
  simp [va_rf]
theorem zm_i0 (cI : ClassId) (M : Nat) (dv : Value) : ({ cls := cI, slots := Array.replicate M dv, vm := .none } : Cell) = zm_i cI M dv := arrV_new _ _ _
theorem zm_oS (cO : ClassId) (N h0 i : Nat) : (zm_o cO N h0 i).setSlot i (.ref (h0 + 1 + i)) = zm_o cO N h0 (i + 1) := by
  unfold zm_o
  rw [arrV_store]
  congr 1
  funext j
  by_cases e : j = i
  · subst e
    simp [updV, va_rf]
  · by_cases h : j < i
    · simp [updV, e, h, Nat.lt_succ_of_lt h]
    · simp [updV, e, h, show ¬ j < i + 1 by omega]
theorem zm_facts (T : State) (cO cI : ClassId) (N M : Nat) (dv : Value) : ∀ i, (zm_f T cO cI N M dv i).heap.size = T.heap.size + 1 + i ∧ (zm_f T cO cI N M dv i).heap[T.heap.size]? = some (zm_o cO N T.heap.size i) ∧ (zm_f T cO cI N M dv i).vm = T.vm ∧ (zm_f T cO cI N M dv i).slotsUsed = T.slotsUsed + N + i * M
  | 0 => ⟨by simp [zm_f], by simp [zm_f], rfl, by simp [zm_f, zm_o, arrV_size]⟩
  | i + 1 => by
    obtain ⟨a, b, d, u⟩ := zm_facts T cO cI N M dv i
    have hlt : T.heap.size < (zm_f T cO cI N M dv i).heap.size := by omega
    have hb' : ((zm_f T cO cI N M dv i).pushCell (zm_i cI M dv)).heap[T.heap.size]? = some (zm_o cO N T.heap.size i) := by rw [State.heap_pushCell_of_lt (h := hlt)]; exact b
    refine ⟨?_, State.heap_setCell_self hb', by simp [zm_f, d], ?_⟩
    · simp [zm_f, State.setCell, a]; omega
    · simp [zm_f, u, zm_i, arrV_size, Nat.succ_mul]; omega
theorem zm_setTop (T : State) (f : JFrame) (cO cI : ClassId) (N M : Nat) (dv : Value) : ∀ i, zm_f (T.setTop f) cO cI N M dv i = (zm_f T cO cI N M dv i).setTop f
  | 0 => rfl
  | i + 1 => by simp only [zm_f, zm_setTop T f cO cI N M dv i, State.heap_setTop, State.pushCell_setTop, State.setCell_setTop]
theorem zm_old (T : State) (cO cI : ClassId) (N M : Nat) (dv : Value) {a : Nat} (ha : a < T.heap.size) : ∀ i, (zm_f T cO cI N M dv i).heap[a]? = T.heap[a]?
  | 0 => State.heap_pushCell_of_lt _ _ ha
  | i + 1 => by
    have f1 := (zm_facts T cO cI N M dv i).1
    have hlt : a < (zm_f T cO cI N M dv i).heap.size := Nat.lt_of_lt_of_le ha (by rw [f1]; omega)
    show (((zm_f T cO cI N M dv i).pushCell (zm_i cI M dv)).setCell T.heap.size _).heap[a]? = _
    rw [State.heap_setCell_other (Nat.ne_of_gt ha), State.heap_pushCell_of_lt (h := hlt)]
    exact zm_old T cO cI N M dv ha i
theorem zm_in (T : State) (cO cI : ClassId) (N M : Nat) (dv : Value) : ∀ i j, j < i → (zm_f T cO cI N M dv i).heap[T.heap.size + 1 + j]? = some (zm_i cI M dv)
  | 0, _, h => absurd h (Nat.not_lt_zero _)
  | i + 1, j, h => by
    have f1 := (zm_facts T cO cI N M dv i).1
    show (((zm_f T cO cI N M dv i).pushCell (zm_i cI M dv)).setCell T.heap.size _).heap[T.heap.size + 1 + j]? = _
    rw [State.heap_setCell_other (show T.heap.size ≠ T.heap.size + 1 + j by omega)]
    rcases Nat.lt_or_ge j i with hj | hj
    · rw [State.heap_pushCell_of_lt (h := by rw [f1]; omega)]
      exact zm_in T cO cI N M dv i j hj
    · have e : j = i := by omega
      subst e
      rw [← f1]
      exact State.heap_pushCell_size _ _
section ZMNA
variable {p : Program} {l : Launch} {e : Env} {R : Room} {s : State} {m : MethodId} {args : Array Value} {below : List Frame} {meth : Method} {c : Code} {T : State} {locs : List Loc} {cells slots : Nat}
theorem zm_stand (X : Stand p l e R s m args below meth c T locs cells slots) (cO cI : ClassId) (N M : Nat) (dv : Value) : ∀ i, Stand p l e R s m args below meth c (zm_f T cO cI N M dv i) (locs ++ (List.range i).map fun j => ⟨T.heap.size, j⟩) (cells + 1 + i) (slots + N + i * M)
  | 0 => by
    have h := X.pushed (zm_o cO N T.heap.size 0)
    have e0 : (zm_o cO N T.heap.size 0).slots.size = N := arrV_size _ _ _
    rw [e0] at h
    simpa [zm_f] using h
  | i + 1 => by
    have Xi := zm_stand X cO cI N M dv i
    obtain ⟨f1, f2, f3, f4⟩ := zm_facts T cO cI N M dv i
    have hcell : ((zm_f T cO cI N M dv i).pushCell (zm_i cI M dv)).heap[T.heap.size]? = some (zm_o cO N T.heap.size i) := by rw [State.heap_pushCell_of_lt (h := by rw [f1]; omega)]; exact f2
    have h := (Xi.pushed (zm_i cI M dv)).stored hcell i (.ref (T.heap.size + 1 + i))
    have e1 : (zm_i cI M dv).slots.size = M := arrV_size _ _ _
    rw [e1, zm_oS] at h
    have e2 : (locs ++ (List.range (i + 1)).map fun j => (⟨T.heap.size, j⟩ : Loc)) = (locs ++ (List.range i).map fun j => (⟨T.heap.size, j⟩ : Loc)) ++ [⟨T.heap.size, i⟩] := by simp [List.range_succ, List.append_assoc]
    have e3 : slots + N + (i + 1) * M = slots + N + i * M + M := by rw [Nat.succ_mul]; omega
    rw [e2, e3]
    exact h
end ZMNA
section ZMNA2
variable {E : CtlPost} {e : Env} {d : Bool} {acts : List Action} {s : State}
theorem zm_wpNew {c9 comp : ClassId} {k : Class} {type : FieldType} {len : Nat} {init : Value} (hk : s.vm.classes[c9]? = some k) (hkind : k.kind = .array comp type) (hlimit : ¬ len > e.platform.arrayLengthLimit) (hheap : ¬ len * componentBytes type > e.platform.maxHeapBytes) (hfit : fits type init = true) (hdef : init.isDefault = true) {Q : Addr → Pre}
    (h1 : s.heap.size < e.platform.maxCells) (h2 : s.slotsUsed + len ≤ e.platform.maxSlots) (hq : Q s.heap.size d acts (s.pushCell { cls := c9, slots := Array.replicate len init, vm := .none })) : wp (Jvm.newArray c9 len init) Q E e d acts s := by
  have hfits : ∀ i v, (Array.replicate len init)[i]? = some v → s.fitsSlot c9 .none i v = true := by
    intro i v hv
    simp only [Array.getElem?_replicate] at hv
    split at hv
    · cases hv; simp [State.fitsSlot, State.slotType?, hk, hkind, hfit]
    · cases hv
  have hda : allocActs (Array.replicate len init) s.heap.size acts = acts := by
    have hall : ((Array.replicate len init).all (·.isDefault)) = true := by
      rw [Array.all_replicate]; split <;> simp [hdef]
    unfold allocActs; rw [if_pos hall]
  simp only [Jvm.newArray, Jvm.arrayFits, wp_bind', W.ask, W.ite, hlimit, if_false, wp_pure', W.theClass, hk, hkind, hheap, W.alloc, W.stop, Option.some.injEq, exists_eq_left', Array.size_replicate, hda]
  rw [if_neg (by omega)]
  exact ⟨h1, h2, hfits, hq⟩
theorem zm_wpRow {cI c2 : ClassId} {kc : Class} {type : FieldType} {q : Int32} (hkc : s.vm.classes[cI]? = some kc) (hkindc : kc.kind = .array c2 type) (hq0 : ¬ q < 0) (hl2 : ¬ q.toNatClampNeg > e.platform.arrayLengthLimit) (hh2 : ¬ q.toNatClampNeg * componentBytes type > e.platform.maxHeapBytes) (hdf : fits type (defaultValue type) = true) (hdd : (defaultValue type).isDefault = true)
    (h1 : s.heap.size < e.platform.maxCells) (h2 : s.slotsUsed + q.toNatClampNeg ≤ e.platform.maxSlots) {Q : Addr → Pre} (hq : Q s.heap.size d acts (s.pushCell (zm_i cI q.toNatClampNeg (defaultValue type)))) : wp (multianewarray.make cI [q]) Q E e d acts s := by
  rw [multianewarray.make]
  simp only [wp_bind', W.ite, hq0, if_false, wp_pure', W.theClass, hkc, hkindc, Option.some.injEq, exists_eq_left']
  refine zm_wpNew hkc hkindc hl2 hh2 hdf hdd h1 h2 ?_
  rw [zm_i0]
  exact hq
theorem zm_ref {t : FieldType} (h : t.isReference = true) (v : Value) (hv : v = .null ∨ ∃ a, v = .ref a) : fits t v = true := by
  rcases hv with rfl | ⟨a, rfl⟩ <;> cases t <;> simp [FieldType.isReference] at h <;> rfl
theorem zm_wp {cO cI c2 : ClassId} {k kc : Class} {t0 type : FieldType} {n q : Int32} (hk : s.vm.classes[cO]? = some k) (hkind : k.kind = .array cI t0) (href : t0.isReference = true) (hkc : s.vm.classes[cI]? = some kc) (hkindc : kc.kind = .array c2 type) (hn : ¬ n < 0) (hq0 : ¬ q < 0)
    (hl1 : ¬ n.toNatClampNeg > e.platform.arrayLengthLimit) (hh1 : ¬ n.toNatClampNeg * componentBytes t0 > e.platform.maxHeapBytes) (hl2 : ¬ q.toNatClampNeg > e.platform.arrayLengthLimit) (hh2 : ¬ q.toNatClampNeg * componentBytes type > e.platform.maxHeapBytes) (hdf : fits type (defaultValue type) = true) (hdd : (defaultValue type).isDefault = true)
    (hc : s.heap.size + 1 + n.toNatClampNeg ≤ e.platform.maxCells) (hs : s.slotsUsed + n.toNatClampNeg + n.toNatClampNeg * q.toNatClampNeg ≤ e.platform.maxSlots) {Q : Addr → Pre} (hq : ∀ d' acts', Q s.heap.size d' acts' (zm_f s cO cI n.toNatClampNeg q.toNatClampNeg (defaultValue type) n.toNatClampNeg)) : wp (multianewarray.make cO [n, q]) Q E e d acts s := by
  have hfind : ([q].find? (· < 0)) = none := by simp [hq0]
  rw [multianewarray.make]
  simp only [wp_bind', W.ite, hn, if_false, wp_pure', W.theClass, hk, hkind, Option.some.injEq, exists_eq_left']
  refine zm_wpNew hk hkind hl1 hh1 (zm_ref href _ (Or.inl rfl)) rfl (by omega) (by have := Nat.zero_le (n.toNatClampNeg * q.toNatClampNeg); omega) ?_
  rw [zm_o0 cO n.toNatClampNeg s.heap.size]
  simp only [hfind]
  rw [ite_self, wp_bind', Std.Legacy.Range.forIn_eq_forIn_range']
  have hsz : ([:n.toNatClampNeg] : Std.Legacy.Range).size = n.toNatClampNeg := by simp [Std.Legacy.Range.size]
  rw [hsz]
  show wp (forIn (List.range' 0 n.toNatClampNeg 1) PUnit.unit _) _ E e d acts _
  refine wp_forIn_inv (fun rest s' => ∃ i, i ≤ n.toNatClampNeg ∧ rest = List.range' i (n.toNatClampNeg - i) ∧ s' = zm_f s cO cI n.toNatClampNeg q.toNatClampNeg (defaultValue type) i) _ _ ⟨0, Nat.zero_le _, rfl, rfl⟩ ?_ ?_
  · rintro x rest s' d' acts' Q' ⟨i, hi, hl, rfl⟩ hnext
    have hlt : i < n.toNatClampNeg := by
      rcases Nat.lt_or_ge i n.toNatClampNeg with h | h
      · exact h
      · rw [show n.toNatClampNeg - i = 0 from by omega] at hl; simp at hl
    obtain ⟨rfl, hrest⟩ : x = i ∧ rest = List.range' (i + 1) (n.toNatClampNeg - (i + 1)) := by
      rw [show n.toNatClampNeg - i = (n.toNatClampNeg - (i + 1)) + 1 from by omega, List.range'_succ] at hl
      exact ⟨(List.cons.inj hl).1, (List.cons.inj hl).2⟩
    obtain ⟨f1, f2, f3, f4⟩ := zm_facts s cO cI n.toNatClampNeg q.toNatClampNeg (defaultValue type) x
    have hmul : x * q.toNatClampNeg + q.toNatClampNeg ≤ n.toNatClampNeg * q.toNatClampNeg := by
      have := Nat.mul_le_mul_right q.toNatClampNeg (show x + 1 ≤ n.toNatClampNeg from hlt)
      rw [Nat.succ_mul] at this; exact this
    simp only [wp_bind']
    refine zm_wpRow (by rw [f3]; exact hkc) hkindc hq0 hl2 hh2 hdf hdd (by rw [f1]; omega) (by rw [f4]; omega) ?_
    have hlt0 : s.heap.size < (zm_f s cO cI n.toNatClampNeg q.toNatClampNeg (defaultValue type) x).heap.size := by rw [f1]; omega
    have e2 : (zm_o cO n.toNatClampNeg s.heap.size x).vm = .none := rfl
    have e3 : (zm_o cO n.toNatClampNeg s.heap.size x).slots.size = n.toNatClampNeg := arrV_size _ _ _
    have e1 : (zm_o cO n.toNatClampNeg s.heap.size x).cls = cO := rfl
    simp only [wp_bind', W.writeLoc, wp_pure']
    refine ⟨zm_o cO n.toNatClampNeg s.heap.size x, by rw [State.heap_pushCell_of_lt (h := hlt0)]; exact f2, by rw [e2]; simp, by rw [e3]; exact hlt, ?_, hnext _ _ _ ⟨x + 1, hlt, hrest, ?_⟩⟩
    · rw [e1, e2]
      simp [State.fitsSlot, State.slotType?, f3, hk, hkind, zm_ref href _ (Or.inr ⟨_, rfl⟩)]
    · rw [f1, zm_oS]; rfl
  · rintro s' d' acts' ⟨i, hi, hl, rfl⟩
    have hiN : i = n.toNatClampNeg := by
      rcases Nat.lt_or_ge i n.toNatClampNeg with h | h
      · rw [show n.toNatClampNeg - i = (n.toNatClampNeg - (i + 1)) + 1 from by omega, List.range'_succ] at hl; cases hl
      · omega
    subst hiN
    simp only [wp_pure']
    exact hq _ _
end ZMNA2
