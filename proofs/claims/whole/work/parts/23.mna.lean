/-! new T[n][m] -/
def zm_o (cO : ClassId) (N h0 i : Nat) : Cell := arrV cO N (fun j => va_rf (if j < i then some (h0 + 1 + j) else none))
def zm_i (cI : ClassId) (M : Nat) (dv : Value) : Cell := arrV cI M (fun _ => dv)
def zm_f (T : State) (cO cI : ClassId) (N M : Nat) (dv : Value) : Nat → State
  | 0 => T.pushCell (zm_o cO N T.heap.size 0)
  | i + 1 => ((zm_f T cO cI N M dv i).pushCell (zm_i cI M dv)).setCell T.heap.size (zm_o cO N T.heap.size (i + 1))
theorem zm_o0 (cO : ClassId) (N h0 : Nat) : ({ cls := cO, slots := Array.replicate N .null, vm := .none } : Cell) = zm_o cO N h0 0 := by
  rw [arrV_new]
  unfold zm_o
  congr 1
theorem zm_i0 (cI : ClassId) (M : Nat) (dv : Value) : ({ cls := cI, slots := Array.replicate M dv, vm := .none } : Cell) = zm_i cI M dv := arrV_new _ _ _
theorem zm_oS (cO : ClassId) (N h0 i : Nat) : (zm_o cO N h0 i).setSlot i (.ref (h0 + 1 + i)) = zm_o cO N h0 (i + 1) := by
  unfold zm_o
  rw [arrV_store]
  congr 1
  funext j
  by_cases e : j = i
  · subst e
    simp [updV, va_rf]
  · by_cases h : j < i
    · simp [updV, e, h, Nat.lt_succ_of_lt h]
    · simp [updV, e, h, show ¬ j < i + 1 by omega]
theorem zm_facts (T : State) (cO cI : ClassId) (N M : Nat) (dv : Value) : ∀ i, (zm_f T cO cI N M dv i).heap.size = T.heap.size + 1 + i ∧ (zm_f T cO cI N M dv i).heap[T.heap.size]? = some (zm_o cO N T.heap.size i) ∧ (zm_f T cO cI N M dv i).vm = T.vm ∧ (zm_f T cO cI N M dv i).slotsUsed = T.slotsUsed + N + i * M
  | 0 => ⟨by simp [zm_f], by simp [zm_f], rfl, by simp [zm_f, zm_o, arrV_size]⟩
  | i + 1 => by
    obtain ⟨a, b, d, u⟩ := zm_facts T cO cI N M dv i
    have hlt : T.heap.size < (zm_f T cO cI N M dv i).heap.size := by omega
    have hb' : ((zm_f T cO cI N M dv i).pushCell (zm_i cI M dv)).heap[T.heap.size]? = some (zm_o cO N T.heap.size i) := by rw [State.heap_pushCell_of_lt (h := hlt)]; exact b
    refine ⟨?_, State.heap_setCell_self hb', by simp [zm_f, d], ?_⟩
    · simp [zm_f, State.setCell, a]; omega
    · simp [zm_f, u, zm_i, arrV_size, Nat.succ_mul]; omega
theorem zm_setTop (T : State) (f : JFrame) (cO cI : ClassId) (N M : Nat) (dv : Value) : ∀ i, zm_f (T.setTop f) cO cI N M dv i = (zm_f T cO cI N M dv i).setTop f
  | 0 => rfl
  | i + 1 => by simp only [zm_f, zm_setTop T f cO cI N M dv i, State.heap_setTop, State.pushCell_setTop, State.setCell_setTop]
theorem zm_old (T : State) (cO cI : ClassId) (N M : Nat) (dv : Value) {a : Nat} (ha : a < T.heap.size) : ∀ i, (zm_f T cO cI N M dv i).heap[a]? = T.heap[a]?
  | 0 => State.heap_pushCell_of_lt _ _ ha
  | i + 1 => by
    have f1 := (zm_facts T cO cI N M dv i).1
    have hlt : a < (zm_f T cO cI N M dv i).heap.size := Nat.lt_of_lt_of_le ha (by rw [f1]; omega)
    show (((zm_f T cO cI N M dv i).pushCell (zm_i cI M dv)).setCell T.heap.size _).heap[a]? = _
    rw [State.heap_setCell_other (Nat.ne_of_gt ha), State.heap_pushCell_of_lt (h := hlt)]
    exact zm_old T cO cI N M dv ha i
theorem zm_in (T : State) (cO cI : ClassId) (N M : Nat) (dv : Value) : ∀ i j, j < i → (zm_f T cO cI N M dv i).heap[T.heap.size + 1 + j]? = some (zm_i cI M dv)
  | 0, _, h => absurd h (Nat.not_lt_zero _)
  | i + 1, j, h => by
    have f1 := (zm_facts T cO cI N M dv i).1
    show (((zm_f T cO cI N M dv i).pushCell (zm_i cI M dv)).setCell T.heap.size _).heap[T.heap.size + 1 + j]? = _
    rw [State.heap_setCell_other (show T.heap.size ≠ T.heap.size + 1 + j by omega)]
    rcases Nat.lt_or_ge j i with hj | hj
    · have hlt : T.heap.size + 1 + j < (zm_f T cO cI N M dv i).heap.size := by rw [f1]; omega
      rw [State.heap_pushCell_of_lt (h := hlt)]
      exact zm_in T cO cI N M dv i j hj
    · have e : j = i := by omega
      subst e
      rw [← f1]
      exact State.heap_pushCell_size _ _
section ZMNA
variable {p : Program} {l : Launch} {e : Env} {R : Room} {s : State} {m : MethodId} {args : Array Value} {below : List Frame} {meth : Method} {c : Code} {T : State} {locs : List Loc} {cells slots : Nat}
theorem zm_stand (X : Stand p l e R s m args below meth c T locs cells slots) (cO cI : ClassId) (N M : Nat) (dv : Value) : ∀ i, Stand p l e R s m args below meth c (zm_f T cO cI N M dv i) (locs ++ (List.range i).map fun j => ⟨T.heap.size, j⟩) (cells + 1 + i) (slots + N + i * M)
  | 0 => by
    have h := X.pushed (zm_o cO N T.heap.size 0)
    have e0 : (zm_o cO N T.heap.size 0).slots.size = N := arrV_size _ _ _
    rw [e0] at h
    simpa [zm_f] using h
  | i + 1 => by
    have Xi := zm_stand X cO cI N M dv i
    obtain ⟨f1, f2, f3, f4⟩ := zm_facts T cO cI N M dv i
    have hlt0 : T.heap.size < (zm_f T cO cI N M dv i).heap.size := by rw [f1]; omega
    have hcell : ((zm_f T cO cI N M dv i).pushCell (zm_i cI M dv)).heap[T.heap.size]? = some (zm_o cO N T.heap.size i) := by rw [State.heap_pushCell_of_lt (h := hlt0)]; exact f2
    have h := (Xi.pushed (zm_i cI M dv)).stored hcell i (.ref (T.heap.size + 1 + i))
    have e1 : (zm_i cI M dv).slots.size = M := arrV_size _ _ _
    rw [e1, zm_oS] at h
    have e2 : (locs ++ (List.range (i + 1)).map fun j => (⟨T.heap.size, j⟩ : Loc)) = (locs ++ (List.range i).map fun j => (⟨T.heap.size, j⟩ : Loc)) ++ [⟨T.heap.size, i⟩] := by simp [List.range_succ, List.append_assoc]
    have e3 : slots + N + (i + 1) * M = slots + N + i * M + M := by rw [Nat.succ_mul]; omega
    rw [e2, e3]
    exact h
end ZMNA
section ZMNA2
variable {E : CtlPost} {e : Env} {d : Bool} {acts : List Action} {s : State}
theorem zm_wpNew {c9 comp : ClassId} {k : Class} {type : FieldType} {len : Nat} {init : Value} (hk : s.vm.classes[c9]? = some k) (hkind : k.kind = .array comp type) (hlimit : ¬ len > e.platform.arrayLengthLimit) (hheap : ¬ len * componentBytes type > e.platform.maxHeapBytes) (hfit : fits type init = true) (hdef : init.isDefault = true) {Q : Addr → Pre}
    (h1 : s.heap.size < e.platform.maxCells) (h2 : s.slotsUsed + len ≤ e.platform.maxSlots) (hq : Q s.heap.size d acts (s.pushCell { cls := c9, slots := Array.replicate len init, vm := .none })) : wp (Jvm.newArray c9 len init) Q E e d acts s := by
  have hfits : ∀ i v, (Array.replicate len init)[i]? = some v → s.fitsSlot c9 .none i v = true := by
    intro i v hv
    simp only [Array.getElem?_replicate] at hv
    split at hv
    · cases hv; simp [State.fitsSlot, State.slotType?, hk, hkind, hfit]
    · cases hv
  have hda : allocActs (Array.replicate len init) s.heap.size acts = acts := by
    have hall : ((Array.replicate len init).all (·.isDefault)) = true := by
      rw [Array.all_replicate]; split <;> simp [hdef]
    unfold allocActs; rw [if_pos hall]
  simp only [Jvm.newArray, Jvm.arrayFits, wp_bind', W.ask, W.ite, hlimit, if_false, wp_pure', W.theClass, hk, hkind, hheap, W.alloc, W.stop, Option.some.injEq, exists_eq_left', Array.size_replicate, hda]
  rw [if_neg (by omega)]
  exact ⟨h1, h2, hfits, hq⟩
theorem zm_wpRow {cI c2 : ClassId} {kc : Class} {type : FieldType} {q : Int32} (hkc : s.vm.classes[cI]? = some kc) (hkindc : kc.kind = .array c2 type) (hq0 : ¬ q < 0) (hl2 : ¬ q.toNatClampNeg > e.platform.arrayLengthLimit) (hh2 : ¬ q.toNatClampNeg * componentBytes type > e.platform.maxHeapBytes) (hdf : fits type (defaultValue type) = true) (hdd : (defaultValue type).isDefault = true)
    (h1 : s.heap.size < e.platform.maxCells) (h2 : s.slotsUsed + q.toNatClampNeg ≤ e.platform.maxSlots) {Q : Addr → Pre} (hq : Q s.heap.size d acts (s.pushCell (zm_i cI q.toNatClampNeg (defaultValue type)))) : wp (multianewarray.make cI [q]) Q E e d acts s := by
  rw [multianewarray.make]
  simp only [wp_bind', W.ite, hq0, if_false, wp_pure', W.theClass, hkc, hkindc, Option.some.injEq, exists_eq_left']
  refine zm_wpNew hkc hkindc hl2 hh2 hdf hdd h1 h2 ?_
  rw [zm_i0]
  exact hq
theorem zm_ref {t : FieldType} (h : t.isReference = true) (v : Value) (hv : v = .null ∨ ∃ a, v = .ref a) : fits t v = true := by
  rcases hv with rfl | ⟨a, rfl⟩ <;> cases t <;> simp [FieldType.isReference] at h <;> rfl
theorem zm_wp {cO cI c2 : ClassId} {k kc : Class} {t0 type : FieldType} {n q : Int32} (hk : s.vm.classes[cO]? = some k) (hkind : k.kind = .array cI t0) (href : t0.isReference = true) (hkc : s.vm.classes[cI]? = some kc) (hkindc : kc.kind = .array c2 type) (hn : ¬ n < 0) (hq0 : ¬ q < 0)
    (hl1 : ¬ n.toNatClampNeg > e.platform.arrayLengthLimit) (hh1 : ¬ n.toNatClampNeg * componentBytes t0 > e.platform.maxHeapBytes) (hl2 : ¬ q.toNatClampNeg > e.platform.arrayLengthLimit) (hh2 : ¬ q.toNatClampNeg * componentBytes type > e.platform.maxHeapBytes) (hdf : fits type (defaultValue type) = true) (hdd : (defaultValue type).isDefault = true)
    (hc : s.heap.size + 1 + n.toNatClampNeg ≤ e.platform.maxCells) (hs : s.slotsUsed + n.toNatClampNeg + n.toNatClampNeg * q.toNatClampNeg ≤ e.platform.maxSlots) {Q : Addr → Pre} (hq : ∀ d' acts', Q s.heap.size d' acts' (zm_f s cO cI n.toNatClampNeg q.toNatClampNeg (defaultValue type) n.toNatClampNeg)) : wp (multianewarray.make cO [n, q]) Q E e d acts s := by
  have hfind : ([q].find? (· < 0)) = none := by simp [hq0]
  rw [multianewarray.make]
  simp only [wp_bind', W.ite, hn, if_false, wp_pure', W.theClass, hk, hkind, Option.some.injEq, exists_eq_left']
  refine zm_wpNew hk hkind hl1 hh1 (zm_ref href _ (Or.inl rfl)) rfl (by omega) (by have := Nat.zero_le (n.toNatClampNeg * q.toNatClampNeg); omega) ?_
  rw [zm_o0 cO n.toNatClampNeg s.heap.size]
  simp only [hfind]
  rw [ite_self, wp_bind', Std.Legacy.Range.forIn_eq_forIn_range']
  have hsz : ([:n.toNatClampNeg] : Std.Legacy.Range).size = n.toNatClampNeg := by simp [Std.Legacy.Range.size]
  rw [hsz]
  show wp (forIn (List.range' 0 n.toNatClampNeg 1) PUnit.unit _) _ E e d acts _
  refine wp_forIn_inv (fun rest s' => ∃ i, i ≤ n.toNatClampNeg ∧ rest = List.range' i (n.toNatClampNeg - i) ∧ s' = zm_f s cO cI n.toNatClampNeg q.toNatClampNeg (defaultValue type) i) _ _ ⟨0, Nat.zero_le _, rfl, rfl⟩ ?_ ?_
  · rintro x rest s' d' acts' Q' ⟨i, hi, hl, rfl⟩ hnext
    have hlt : i < n.toNatClampNeg := by
      rcases Nat.lt_or_ge i n.toNatClampNeg with h | h
      · exact h
      · rw [show n.toNatClampNeg - i = 0 from by omega] at hl; simp at hl
    obtain ⟨rfl, hrest⟩ : x = i ∧ rest = List.range' (i + 1) (n.toNatClampNeg - (i + 1)) := by
      rw [show n.toNatClampNeg - i = (n.toNatClampNeg - (i + 1)) + 1 from by omega, List.range'_succ] at hl
      exact ⟨(List.cons.inj hl).1, (List.cons.inj hl).2⟩
    obtain ⟨f1, f2, f3, f4⟩ := zm_facts s cO cI n.toNatClampNeg q.toNatClampNeg (defaultValue type) x
    have hmul : x * q.toNatClampNeg + q.toNatClampNeg ≤ n.toNatClampNeg * q.toNatClampNeg := by
      have := Nat.mul_le_mul_right q.toNatClampNeg (show x + 1 ≤ n.toNatClampNeg from hlt)
      rw [Nat.succ_mul] at this; exact this
    simp only [wp_bind']
    refine zm_wpRow (by rw [f3]; exact hkc) hkindc hq0 hl2 hh2 hdf hdd (by rw [f1]; omega) (by rw [f4]; omega) ?_
    have hlt0 : s.heap.size < (zm_f s cO cI n.toNatClampNeg q.toNatClampNeg (defaultValue type) x).heap.size := by rw [f1]; omega
    have e2 : (zm_o cO n.toNatClampNeg s.heap.size x).vm = .none := rfl
    have e3 : (zm_o cO n.toNatClampNeg s.heap.size x).slots.size = n.toNatClampNeg := arrV_size _ _ _
    have e1 : (zm_o cO n.toNatClampNeg s.heap.size x).cls = cO := rfl
    simp only [wp_bind', W.writeLoc, wp_pure']
    refine ⟨zm_o cO n.toNatClampNeg s.heap.size x, by rw [State.heap_pushCell_of_lt (h := hlt0)]; exact f2, by rw [e2]; simp, by rw [e3]; exact hlt, ?_, hnext _ _ _ ⟨x + 1, hlt, hrest, ?_⟩⟩
    · rw [e1, e2]
      simp [State.fitsSlot, State.slotType?, f3, hk, hkind, zm_ref href _ (Or.inr ⟨_, rfl⟩)]
    · rw [f1, zm_oS]; rfl
  · rintro s' d' acts' ⟨i, hi, hl, rfl⟩
    have hiN : i = n.toNatClampNeg := by
      rcases Nat.lt_or_ge i n.toNatClampNeg with h | h
      · rw [show n.toNatClampNeg - i = (n.toNatClampNeg - (i + 1)) + 1 from by omega, List.range'_succ] at hl; cases hl
      · omega
    subst hiN
    simp only [wp_pure']
    exact hq _ _
end ZMNA2
section ZMNA3
variable {p : Program} {l : Launch} {e : Env} {R : Room} {s : State} {m : MethodId} {args : Array Value} {below : List Frame} {meth : Method} {c : Code} {H : Heap} {locs : List Loc} {cells slots : Nat} {Q : State → Prop}
theorem zm_W (hexec : p.tables.exec = Jvm.exec) {cc : ByteArray} (hb : c.code = cc) {own : String} {index : Nat} {ty : FieldType} {cO cI c2 : ClassId} {kO kI : Class} (hown : s.vm.findClass own = some m.cls) (hclink : (Cond.classLink own index ("[" ++ (FieldType.array ty).toString)).before args s = true) (fO : s.vm.findClass ("[" ++ (FieldType.array ty).toString) = some cO) (hkO : s.vm.classes[cO]? = some kO) (hkindO : kO.kind = .array cI (.array ty)) (hkI : s.vm.classes[cI]? = some kI) (hkindI : kI.kind = .array c2 ty)
    {pc : Nat} {ls : Array Slot} {rest : List Value} {n k : Int32} (hn : ¬ n < 0) (hk : ¬ k < 0) (hb1 : n.toNatClampNeg * 4 ≤ 536870912) (hb2 : k.toNatClampNeg * componentBytes ty ≤ 536870912) (hb3 : k.toNatClampNeg ≤ 536870912) (hdf : fits ty (defaultValue ty) = true) (hdd : (defaultValue ty).isDefault = true)
    (hcells : cells + (1 + n.toNatClampNeg) ≤ R.cells) (hslots : slots + (n.toNatClampNeg + n.toNatClampNeg * k.toNatClampNeg) ≤ R.slots) (hdg : decode cc pc = .ok (.multianewarray index 2, 4))
    (kk : ∀ H1 : Heap, (∀ x : Nat, x < H.size → H1[x]? = H[x]?) → H1.size = H.size + 1 + n.toNatClampNeg → H1[H.size]? = some (zm_o cO n.toNatClampNeg H.size n.toNatClampNeg) → (∀ j : Nat, j < n.toNatClampNeg → H1[H.size + 1 + j]? = some (zm_i cI k.toNatClampNeg (defaultValue ty))) → W p l e R s m args below meth c H1 (locs ++ (List.range n.toNatClampNeg).map fun j => ⟨H.size, j⟩) (cells + 1 + n.toNatClampNeg) (slots + n.toNatClampNeg + n.toNatClampNeg * k.toNatClampNeg) Q (F0 m (pc + 4) ls (.ref H.size :: rest))) :
    W p l e R s m args below meth c H locs cells slots Q (F0 m pc ls (.int k :: .int n :: rest)) := by
  intro T hT X
  subst hT; subst hb
  have hpl : e.platform.magicAccessors = ({} : Platform).magicAccessors := by rw [X.admits.platform]
  obtain ⟨c0, hfc0, hcl⟩ := Cond.classLink_spec hown hclink e.platform hpl
  cases fO.symm.trans hfc0
  obtain ⟨hg₁, hwarm₁, hready₁⟩ := State.classEntry (e := e) X.warmed hcl
  generalize T.vm.noted m.cls index (.cls cO) = vm₁ at hg₁ hwarm₁ hready₁
  have hal : s.vm.Alike vm₁ := hwarm₁.alike
  obtain ⟨kA₁, hkA₁, heA⟩ := hal.2.2 _ _ hkO
  obtain ⟨kC₁, hkC₁, heC⟩ := hal.2.2 _ _ hkI
  have hkindA₁ : kA₁.kind = .array cI (.array ty) := by rw [heA]; exact hkindO
  have hkindC₁ : kC₁.kind = .array c2 ty := by rw [heC]; exact hkindI
  have X₁ := X.noted hwarm₁
  obtain ⟨hr1, hr2⟩ := X.roomAbove hcells hslots
  have XF := zm_stand X₁ cO cI n.toNatClampNeg k.toNatClampNeg (defaultValue ty) n.toNatClampNeg
  obtain ⟨f1, f2, -, -⟩ := zm_facts (T.setVm vm₁) cO cI n.toNatClampNeg k.toNatClampNeg (defaultValue ty) n.toNatClampNeg
  obtain ⟨t, a1, b1⟩ := kk (zm_f (T.setVm vm₁) cO cI n.toNatClampNeg k.toNatClampNeg (defaultValue ty) n.toNatClampNeg).heap (fun x hx => zm_old (T.setVm vm₁) cO cI _ _ _ (a := x) hx _) f1 f2 (fun j hj => zm_in (T.setVm vm₁) cO cI _ _ _ _ j hj) _ rfl XF
  refine ⟨t, ?_, b1⟩
  have hl1 : ¬ n.toNatClampNeg > e.platform.arrayLengthLimit := by rw [Launch.admits_arrayLengthLimit X.admits]; omega
  have hh1 : ¬ n.toNatClampNeg * componentBytes (.array ty) > e.platform.maxHeapBytes := by
    rw [Launch.admits_maxHeapBytes X.admits]; show ¬ n.toNatClampNeg * 4 > 536870912; omega
  have hl2 : ¬ k.toNatClampNeg > e.platform.arrayLengthLimit := by rw [Launch.admits_arrayLengthLimit X.admits]; omega
  have hh2 : ¬ k.toNatClampNeg * componentBytes ty > e.platform.maxHeapBytes := by rw [Launch.admits_maxHeapBytes X.admits]; omega
  jvm_step X.here [hexec, hdg, F0]
  simp only [multianewarray.sem, wp_bind', W.resolveClassAt_links (State.method?_setTop (F0 m pc ls (.int k :: .int n :: rest)) X.here.top) hg₁]
  rw [W.popN, if_neg (by decide)]
  refine ⟨F0 m pc ls (.int k :: .int n :: rest), State.topJava?_setTop' (s := T.setVm vm₁) (F0 m pc ls (.int k :: .int n :: rest)) X.here.top, [.int n, .int k], rest, rfl, rfl, ?_⟩
  simp only [List.mapM_cons, List.mapM_nil, wp_bind', wp_pure']
  refine zm_wp (k := kA₁) (kc := kC₁) (cI := cI) (c2 := c2) (t0 := .array ty) (type := ty) hkA₁ hkindA₁ rfl hkC₁ hkindC₁ hn hk hl1 hh1 hl2 hh2 hdf hdd (by show T.heap.size + 1 + _ ≤ _; omega) (by show T.slotsUsed + _ + _ ≤ _; omega) (fun d' acts' => ?_)
  have eS : ((T.setTop (F0 m pc ls (.int k :: .int n :: rest))).setVm vm₁).setTop (F0 m pc ls rest) = (T.setVm vm₁).setTop (F0 m pc ls rest) := by
    show ((T.setVm vm₁).setTop _).setTop _ = _
    rw [State.setTop_setTop]
  change wp _ _ _ _ _ _ (zm_f (((T.setTop (F0 m pc ls (.int k :: .int n :: rest))).setVm vm₁).setTop (F0 m pc ls rest)) _ _ _ _ _ _)
  rw [eS, zm_setTop]
  simp only [wp_bind', W.mark, W.pushRef, State.topJava?_setTop' _ XF.here.top, Option.some.injEq, exists_eq_left', State.setTop_setTop, State.heap_setTop]
  intro acts
  simp [jvm, XF.here.top]
  exact a1
end ZMNA3
/-! the small memory's side -/
theorem zmks_1 (sh : (Nat × Nat) ⊕ Nat) : ∀ (n : Nat) (μ : zv_M), (zv_mks sh n μ).1 = μ.1 ++ List.replicate n sh
  | 0, μ => by simp [zv_mks]
  | n + 1, μ => by
    show (zv_mks sh n (zv_mk μ sh)).1 = _
    rw [zmks_1 sh n, zmk_1, List.append_assoc, List.replicate_succ]; rfl
theorem zmks_old (sh : (Nat × Nat) ⊕ Nat) : ∀ (n : Nat) (μ : zv_M) (j : Nat), j < μ.1.length → (zv_mks sh n μ).2.1 j = μ.2.1 j ∧ (zv_mks sh n μ).2.2.1 j = μ.2.2.1 j ∧ (zv_mks sh n μ).2.2.2 j = μ.2.2.2 j
  | 0, μ, j, _ => ⟨rfl, rfl, rfl⟩
  | n + 1, μ, j, h => by
    show (zv_mks sh n (zv_mk μ sh)).2.1 j = _ ∧ (zv_mks sh n (zv_mk μ sh)).2.2.1 j = _ ∧ (zv_mks sh n (zv_mk μ sh)).2.2.2 j = _
    obtain ⟨a1, a2, a3⟩ := zmks_old sh n (zv_mk μ sh) j (by rw [zmk_len]; omega)
    obtain ⟨b1, b2, b3⟩ := zmk_old (sh := sh) h
    exact ⟨a1.trans b1, a2.trans b2, a3.trans b3⟩
theorem zmks_new (sh : (Nat × Nat) ⊕ Nat) : ∀ (n : Nat) (μ : zv_M) (j : Nat), j < n → (zv_mks sh n μ).2.1 (μ.1.length + j) = (fun _ => 0) ∧ (zv_mks sh n μ).2.2.1 (μ.1.length + j) = fun _ => 0
  | 0, _, _, h => absurd h (Nat.not_lt_zero _)
  | n + 1, μ, j, h => by
    show (zv_mks sh n (zv_mk μ sh)).2.1 _ = _ ∧ (zv_mks sh n (zv_mk μ sh)).2.2.1 _ = _
    cases j with
    | zero =>
      obtain ⟨a1, a2, -⟩ := zmks_old sh n (zv_mk μ sh) (μ.1.length + 0) (by rw [zmk_len]; omega)
      exact ⟨a1.trans zmk_I, a2.trans zmk_L⟩
    | succ j =>
      have g := zmks_new sh n (zv_mk μ sh) j (by omega)
      rw [zmk_len] at g
      rw [show μ.1.length + (j + 1) = μ.1.length + 1 + j by omega]
      exact g
theorem zsl_rep (t k : Nat) : ∀ n, zsl (List.replicate n (.inl (t, k))) = n * k
  | 0 => by simp [zsl]
  | n + 1 => by rw [List.replicate_succ, zsl, zsl_rep t k n, Nat.succ_mul]; show k + n * k = _; omega
theorem zchk_mna {m pc idx dm : Nat} {d : List Nat} (hc : zchk m (pc, .multianewarray idx dm, d) = true) : zdec m (pc, .multianewarray idx dm, d) 4 = true ∧ dm = 2 ∧ ∀ ot it, d = [ot, it] → zt_q.any (fun q => q.1 == zow m && q.2.1 == idx && q.2.2.1 == ot) = true := by
  obtain ⟨a1, a2⟩ := zand hc
  obtain ⟨a3, a4⟩ := zand a2
  refine ⟨a1, of_decide_eq_true a3, ?_⟩
  rintro ot it rfl
  exact a4
theorem zmna : zMNA := by
  intro X s0 ov cA D n0 z0 res m p e R s mid args below meth c Q l C pc idx dm d ls st μ k hc h hk
  obtain ⟨a1, a5, a4⟩ := zchk_mna hc
  subst a5
  have hd := zdec_ok a1
  have hsh : ∃ (k' n : Int32) (st' : List Value) (ot it : Nat), st = .int k' :: .int n :: st' ∧ d = [ot, it] := by
    clear hc a1 a4 hd
    unfold zv_op at h
    dsimp only at h
    split at h
    · exact ⟨_, _, _, _, _, rfl, rfl⟩
    · cases h
  obtain ⟨k', n, st, ot, it, rfl, rfl⟩ := hsh
  unfold zv_op at h
  dsimp only at h
  replace a4 := a4 _ _ rfl
  by_cases hb : n < 0 ∨ k' < 0 ∨ 1000 < n.toNatClampNeg ∨ 1000 < k'.toNatClampNeg ∨ ¬ ((ot = 5 ∧ it = 0) ∨ (ot = 6 ∧ it = 1))
  · rw [if_pos hb] at h
    cases h
  · rw [if_neg hb] at h
    have hb0 := hb
    · skip
      have hn : ¬ n < 0 := fun q => hb (Or.inl q)
      have hk0 : ¬ k' < 0 := fun q => hb (Or.inr (Or.inl q))
      have hn2 : n.toNatClampNeg ≤ 1000 := Nat.not_lt.mp fun q => hb (Or.inr (Or.inr (Or.inl q)))
      have hk2 : k'.toNatClampNeg ≤ 1000 := Nat.not_lt.mp fun q => hb (Or.inr (Or.inr (Or.inr (Or.inl q))))
      have hot : (ot = 5 ∧ it = 0) ∨ (ot = 6 ∧ it = 1) := Classical.byContradiction fun q => hb (Or.inr (Or.inr (Or.inr (Or.inr q))))
      obtain ⟨q, hq, e9⟩ := List.any_eq_true.mp a4
      simp only [Bool.and_eq_true, beq_iff_eq] at e9
      obtain ⟨⟨e1, e2⟩, e3⟩ := e9
      have h5 := List.all_eq_true.mp zt_q_ok q hq
      rw [e1, e2, e3] at h5
      have hlk := C.2.2.2.2.1 _ (zat_in h5 rfl)
      generalize hN : n.toNatClampNeg = N at h hn2
      generalize hM : k'.toNatClampNeg = K at h hk2
      generalize hμ1 : ((zv_mk μ (.inl (ot, N))).1, (zv_mk μ (.inl (ot, N))).2.1, (zv_mk μ (.inl (ot, N))).2.2.1, va_up μ.2.2.2 μ.1.length (fun j => if j < N then some (μ.1.length + 1 + j) else none)) = μ1 at h
      generalize hμ2 : zv_mks (.inl (it, K)) N μ1 = μ2 at h
      have g := hk _ _ _ h
      have l1 : μ1.1 = μ.1 ++ [.inl (ot, N)] := by rw [← hμ1]; rfl
      have l1' : μ1.1.length = μ.1.length + 1 := by rw [l1, List.length_append]; rfl
      have l2 : μ2.1 = μ.1 ++ (.inl (ot, N) :: List.replicate N (.inl (it, K))) := by rw [← hμ2, zmks_1, l1, List.append_assoc]; rfl
      have l2' : μ2.1.length = μ.1.length + 1 + N := by rw [l2, List.length_append, List.length_cons, List.length_replicate]; omega
      have s2 : zsl μ2.1 = zsl μ.1 + (N + N * K) := by rw [l2, zsl_app, zsl, zsl_rep]; rfl
      have o1 : ∀ j, j < μ.1.length → μ2.2.1 j = μ.2.1 j ∧ μ2.2.2.1 j = μ.2.2.1 j ∧ μ2.2.2.2 j = μ.2.2.2 j := by
        intro j hj
        obtain ⟨b1, b2, b3⟩ := zmks_old (.inl (it, K)) N μ1 j (by omega)
        rw [hμ2] at b1 b2 b3
        have hj' : j ≠ μ.1.length := Nat.ne_of_lt hj
        rw [b1, b2, b3, ← hμ1]
        simp [zv_mk, va_up, hj']
      have o2 : μ2.2.2.2 μ.1.length = fun j => if j < N then some (μ.1.length + 1 + j) else none := by
        obtain ⟨-, -, b3⟩ := zmks_old (.inl (it, K)) N μ1 μ.1.length (by omega)
        rw [hμ2] at b3
        rw [b3, ← hμ1]
        simp [va_up]
      have o3 : ∀ j, j < N → μ2.2.1 (μ.1.length + 1 + j) = (fun _ => 0) ∧ μ2.2.2.1 (μ.1.length + 1 + j) = fun _ => 0 := by
        intro j hj
        have b := zmks_new (.inl (it, K)) N μ1 j hj
        rw [hμ2, l1'] at b
        exact b
      refine ⟨⟨Nat.le_trans (by omega) g.1.1, Nat.le_trans (by omega) g.1.2⟩, fun H locs rl h1 h2 hP hS hl hL => ?_⟩
      have hc1 : μ.1.length - n0 + (1 + N) ≤ R.cells := by
        have a1 := g.1.1
        have a2 := C.2.2.2.2.2.2.2.2.2.2.2.2.2.1
        omega
      have hs1 : zsl μ.1 - z0 + (N + N * K) ≤ R.slots := by
        have a1 := g.1.2
        have a2 := C.2.2.2.2.2.2.2.2.2.2.2.2.2.2.1
        omega
      have hkb : ∀ ty : FieldType, K * componentBytes ty ≤ 536870912 := fun ty => by
        have : componentBytes ty ≤ 8 := by cases ty <;> first | decide | (simp only [componentBytes]; decide)
        exact Nat.le_trans (Nat.mul_le_mul hk2 this) (by decide)
      refine W_have (P := H.size = s0 + μ.1.length) (fun T hT X9 => ?_) (fun hsz => ?_)
      · have b1 := X9.heapSize
        have b2 := C.2.2.2.2.2.2.2.2.2.2.2.2.1
        rw [hT] at b1
        have b3 := hS.1
        by_cases hz : μ.1.length = 0
        · omega
        · have b4 := (hP _ _ (zws_get (s0 := s0) (cA := cA) (μ := μ) (k := μ.1.length - 1) (by omega))).lt
          have b5 : s0 + (μ.1.length - 1) < H.size := b4
          omega
      have fin : ∀ {ty : FieldType} {cO cI c2 : ClassId} {kO kI : Class}, (if ot = 5 then "[[I" else "[[J") = "[" ++ (FieldType.array ty).toString → cO = cA ot → cI = cA it → s.vm.findClass ("[" ++ (FieldType.array ty).toString) = some cO → s.vm.classes[cO]? = some kO → kO.kind = .array cI (.array ty) → s.vm.classes[cI]? = some kI → kI.kind = .array c2 ty → fits ty (defaultValue ty) = true → (defaultValue ty).isDefault = true → (∀ q9 : va_E, q9 = .inl (cA it, K, zdt s0 μ2 (μ.1.length + 1) it) → True) → (∀ j, j < N → vp_cell (cA it) (K, zdt s0 μ2 (μ.1.length + 1 + j) it) = zm_i (cA it) K (defaultValue ty)) → W p l e R s mid args below meth c H locs (μ.1.length - n0) (zsl μ.1 - z0) Q (F0 mid pc rl ((Value.int k' :: Value.int n :: st).map (zc s0 ov))) := by
        intro ty cO cI c2 kO kI et eO eI fO hkO hkindO hkI hkindI hdf hdd _ hrow
        subst eO eI
        rw [et] at hlk
        refine zm_W C.1 C.2.1 C.2.2.2.1 hlk fO hkO hkindO hkI hkindI hn hk0 (by rw [hN]; omega) (by rw [hM]; exact hkb _) (by rw [hM]; omega) hdf hdd (by rw [hN]; exact hc1) (by rw [hN, hM]; exact hs1) hd (fun H1 w1 w2 w3 w4 => ?_)
        rw [hN] at w2 w3 w4
        rw [hM] at w4
        rw [hN, hM]
        refine W.cs (cells' := μ2.1.length - n0) (slots' := zsl μ2.1 - z0) (by omega) (by omega) ?_
        have e8 : Value.ref H.size = zc s0 ov (.ref μ.1.length) := by rw [hsz]; rfl
        rw [e8]
        refine g.2 H1 _ rl (by omega) (by omega) ?_ ⟨by have := hS.1; omega, fun x x1 x2 => (w1 x (Nat.lt_of_lt_of_le x1 hS.1)).trans (hS.2.1 x x1 x2), fun y hy => ?_⟩ hl hL
        · intro i q hi
          obtain ⟨hil, rfl⟩ := zws_inv hi
          by_cases c1 : i < μ.1.length
          · have b4 := hP _ _ (zws_get (s0 := s0) (cA := cA) (μ := μ) c1)
            have b5 : s0 + i < H.size := b4.lt
            obtain ⟨x1, x2, x3⟩ := o1 i c1
            rw [zw_same (by rw [l2, List.getElem?_append_left c1]) x1 x2 x3]
            exact b4.kept (w1 _ b5)
          · by_cases c2 : i = μ.1.length
            · subst c2
              have y1 : μ2.1[μ.1.length]? = some (.inl (ot, N)) := by rw [l2, List.getElem?_append_right (Nat.le_refl _), Nat.sub_self]; rfl
              rw [zw_ar y1]
              show H1[s0 + μ.1.length]? = some (vp_cell _ _)
              rw [← hsz, w3]
              have y2 : zdt s0 μ2 μ.1.length ot = .inr (.inr (.inr (.inr (fun j => if j < N then some (H.size + 1 + j) else none)))) := by
                unfold zdt
                rw [if_neg (by omega), if_pos (by omega), o2]
                congr 4
                funext j
                by_cases c3 : j < N
                · simp [c3]; omega
                · simp [c3]
              rw [y2, vp_cell_q]
              unfold zm_o
              congr 1
            · obtain ⟨j, hj, rfl⟩ : ∃ j, j < N ∧ i = μ.1.length + 1 + j := ⟨i - (μ.1.length + 1), by omega, by omega⟩
              have y1 : μ2.1[μ.1.length + 1 + j]? = some (.inl (it, K)) := by
                rw [l2, List.getElem?_append_right (by omega), show μ.1.length + 1 + j - μ.1.length = j + 1 by omega, List.getElem?_cons_succ, List.getElem?_replicate, if_pos hj]
              rw [zw_ar y1]
              show H1[s0 + (μ.1.length + 1 + j)]? = some (vp_cell _ _)
              rw [show s0 + (μ.1.length + 1 + j) = H.size + 1 + j by omega, w4 j hj]
              exact congrArg some (hrow j hj).symm
        · rcases List.mem_append.mp hy with hy | hy
          · exact hS.2.2 y hy
          · obtain ⟨j, -, rfl⟩ := List.mem_map.mp hy
            show s0 ≤ H.size
            omega
      have G := C.2.2.2.2.2.2.2.2.2.2.2.1
      have KK := C.2.2.2.2.2.2.2.2.2.2.1
      rcases hot with ⟨rfl, rfl⟩ | ⟨rfl, rfl⟩
      · obtain ⟨c0, c5, kO, f0, f5, hkO, hkindO⟩ := G.2.2.2.2.2.2.1
        obtain ⟨A5, R5⟩ := KK.2 5 _ rfl
        obtain ⟨A0, R0⟩ := KK.2 0 _ rfl
        have ec5 : c5 = cA 5 := Option.some.inj (f5.symm.trans R5)
        have ec0 : c0 = cA 0 := Option.some.inj (f0.symm.trans R0)
        obtain ⟨-, kI, hkI, c2, hkindI⟩ := A0 0 (fun _ => .int 0)
        subst ec5 ec0
        refine fin (ty := .int) rfl rfl rfl f5 hkO hkindO hkI hkindI rfl rfl (fun _ _ => trivial) (fun j hj => ?_)
        rw [show zdt s0 μ2 (μ.1.length + 1 + j) 0 = .inl (fun _ => 0) by simp [zdt, (o3 j hj).1]]
        rfl
      · obtain ⟨c0, c5, kO, f0, f5, hkO, hkindO⟩ := G.2.2.2.2.2.2.2.1
        obtain ⟨A5, R5⟩ := KK.2 6 _ rfl
        obtain ⟨A0, R0⟩ := KK.2 1 _ rfl
        have ec5 : c5 = cA 6 := Option.some.inj (f5.symm.trans R5)
        have ec0 : c0 = cA 1 := Option.some.inj (f0.symm.trans R0)
        obtain ⟨-, kI, hkI, c2, hkindI⟩ := A0 0 (fun _ => .int 0)
        subst ec5 ec0
        refine fin (ty := .long) rfl rfl rfl f5 hkO hkindO hkI hkindI rfl rfl (fun _ _ => trivial) (fun j hj => ?_)
        rw [show zdt s0 μ2 (μ.1.length + 1 + j) 1 = .inr (.inl (fun _ => 0)) by simp [zdt, (o3 j hj).2]]
        rfl

