/-! keys and their counts, as a sorted list -/
theorem zac0 {b : Bool} {I : zI} {J : zJ} {a n b' m n' ss : Nat} {α : Type} {k : zv_M → Option α} (h : zSH[a]? = some (.inl (0, n))) (h' : zSH[b']? = some (.inl (0, n'))) (h1 : m ≤ n) (h2 : m ≤ n') (hn : n < 2 ^ 31) (hn' : n' < 2 ^ 31) (hs : ss ≤ 8) : zv_ac (zM b I J) a 0 b' 0 (Int32.ofNat m) ss k = k (zM b (va_up I b' (va_cpy (I a) (I b') 0 0 m)) J) :=
  zac (sp := 0) (dp := 0) h h' (by omega) (by omega) hn hn' hs
theorem zup_same {α : Type} {f : Nat → α} {a : Nat} {v : α} : va_up f a v a = v := by simp [va_up]
theorem zup_ne {α : Type} {f : Nat → α} {a a' : Nat} {v : α} (h : a' ≠ a) : va_up f a v a' = f a' := by simp [va_up, h]
def zrow (f : Nat → Int32) (l : List Int32) : Prop := ∀ j v, l[j]? = some v → f j = v
abbrev zKL : Type := List (Int32 × Int32)
def zSrt (K : zKL) : Prop := K.Pairwise (fun p q => p.1 < q.1)
def zcnt (x : Int32) : zKL → Int32
  | [] => 0
  | q :: K => if q.1 = x then q.2 else zcnt x K
def zset (x v : Int32) : zKL → zKL
  | [] => if v = 0 then [] else [(x, v)]
  | q :: K => if q.1 < x then q :: zset x v K else if q.1 = x then (if v = 0 then K else (x, v) :: K) else (if v = 0 then q :: K else (x, v) :: q :: K)
theorem zsplit (x : Int32) : ∀ K : zKL, zSrt K → ∃ A B, K = A ++ B ∧ (∀ q ∈ A, q.1 < x) ∧ (∀ q ∈ B, ¬ q.1 < x)
  | [], _ => ⟨[], [], rfl, by simp, by simp⟩
  | q :: K, h => by
    obtain ⟨A, B, rfl, h1, h2⟩ := zsplit x K (List.Pairwise.of_cons h)
    by_cases hq : q.1 < x
    · refine ⟨q :: A, B, rfl, fun p hp => ?_, h2⟩
      rcases List.mem_cons.mp hp with rfl | hp
      · exact hq
      · exact h1 p hp
    · refine ⟨[], q :: (A ++ B), rfl, by simp, fun p hp => ?_⟩
      rcases List.mem_cons.mp hp with rfl | hp
      · exact hq
      · have := (List.pairwise_cons.mp h).1 p hp
        intro hx
        rw [zi_lt] at *
        omega
theorem zcnt_app {x : Int32} : ∀ {A B : zKL}, (∀ q ∈ A, q.1 < x) → zcnt x (A ++ B) = zcnt x B
  | [], _, _ => rfl
  | q :: A, B, h => by
    have h1 := h q (List.mem_cons_self ..)
    have hne : ¬ q.1 = x := fun e => by rw [e, zi_lt] at h1; omega
    rw [List.cons_append, zcnt, if_neg hne]
    exact zcnt_app (fun p hp => h p (List.mem_cons_of_mem _ hp))
theorem zset_app {x v : Int32} : ∀ {A B : zKL}, (∀ q ∈ A, q.1 < x) → zset x v (A ++ B) = A ++ zset x v B
  | [], _, _ => rfl
  | q :: A, B, h => by
    have h1 := h q (List.mem_cons_self ..)
    rw [List.cons_append, zset, if_pos h1, zset_app (fun p hp => h p (List.mem_cons_of_mem _ hp))]
    rfl
theorem zcnt_gt {x : Int32} : ∀ {B : zKL}, (∀ q ∈ B, x < q.1) → zcnt x B = 0
  | [], _ => rfl
  | q :: B, h => by
    have h1 := h q (List.mem_cons_self ..)
    have hne : ¬ q.1 = x := fun e => by rw [e, zi_lt] at h1; omega
    rw [zcnt, if_neg hne]
    exact zcnt_gt (fun p hp => h p (List.mem_cons_of_mem _ hp))
/-- the three ways in which x lies to the keys -/
theorem zways (x : Int32) (K : zKL) (h : zSrt K) : ∃ A B, (∀ q ∈ A, q.1 < x) ∧ (∀ q ∈ B, x < q.1) ∧ ((K = A ++ B ∧ zcnt x K = 0 ∧ ∀ v, zset x v K = if v = 0 then A ++ B else A ++ (x, v) :: B) ∨ ∃ c, K = A ++ (x, c) :: B ∧ zcnt x K = c ∧ ∀ v, zset x v K = if v = 0 then A ++ B else A ++ (x, v) :: B) := by
  obtain ⟨A, B, rfl, h1, h2⟩ := zsplit x K h
  cases B with
  | nil =>
    refine ⟨A, [], h1, by simp, Or.inl ⟨rfl, by rw [zcnt_app h1]; rfl, fun v => ?_⟩⟩
    rw [zset_app h1, zset]
    split <;> rfl
  | cons q B =>
    have hs := List.pairwise_append.mp h
    have hb := List.pairwise_cons.mp hs.2.1
    have hq := h2 q (List.mem_cons_self ..)
    by_cases he : q.1 = x
    · refine ⟨A, B, h1, fun p hp => by rw [← he]; exact hb.1 p hp, Or.inr ⟨q.2, by rw [← he], by rw [zcnt_app h1, zcnt, if_pos he], fun v => ?_⟩⟩
      rw [zset_app h1, zset, if_neg hq, if_pos he]
      split <;> rfl
    · have hx : x < q.1 := by
        rw [zi_lt] at *
        rw [zi_eq] at he
        omega
      have hB : ∀ p ∈ q :: B, x < p.1 := fun p hp => by
        rcases List.mem_cons.mp hp with rfl | hp
        · exact hx
        · have := hb.1 p hp
          rw [zi_lt] at *
          omega
      refine ⟨A, q :: B, h1, hB, Or.inl ⟨rfl, by rw [zcnt_app h1, zcnt_gt hB], fun v => ?_⟩⟩
      rw [zset_app h1, zset, if_neg hq, if_neg he]
      split <;> rfl
theorem zrow_get {f : Nat → Int32} {A B : List Int32} {v : Int32} (h : zrow f (A ++ v :: B)) : f A.length = v := h _ _ (by simp)
theorem zrow_lt {f : Nat → Int32} {l : List Int32} (h : zrow f l) {j : Nat} (hj : j < l.length) : f j = l[j] := h _ _ (by simp [hj])
theorem zcut_of {f : Nat → Int32} {A B : zKL} {x : Int32} (hr : zrow f ((A ++ B).map (·.1))) (h1 : ∀ q ∈ A, q.1 < x) (h2 : ∀ q ∈ B, ¬ q.1 < x) : zcut f (A ++ B).length x A.length := by
  refine ⟨by simp, fun j hj => ?_, fun j hj hj' => ?_⟩
  · rw [hr j (A[j]).1 (by rw [List.getElem?_map, List.getElem?_append_left hj, List.getElem?_eq_getElem hj]; rfl)]
    exact h1 _ (List.getElem_mem hj)
  · have hl : j - A.length < B.length := by simp at hj'; omega
    rw [hr j (B[j - A.length]).1 (by rw [List.getElem?_map, List.getElem?_append_right hj, List.getElem?_eq_getElem hl]; rfl)]
    exact h2 _ (List.getElem_mem hl)
def zKy (b : Bool) (a : Nat) : Prop := zSH[a]? = some (.inr 4) ∧ zSH[a + 1]? = some (.inl (0, 300)) ∧ zSH[a + 2]? = some (.inl (0, 300)) ∧ zP b a 0 = some (a + 1) ∧ zP b a 1 = some (a + 2)
theorem zKy_2 (b : Bool) : zKy b 2 := ⟨rfl, rfl, rfl, rfl, rfl⟩
theorem zKy_17 (b : Bool) : zKy b 17 := ⟨rfl, rfl, rfl, rfl, rfl⟩
theorem zKy_33 (b : Bool) : zKy b 33 := ⟨rfl, rfl, rfl, rfl, rfl⟩
def zKeys (I : zI) (a : Nat) (K : zKL) : Prop := I a 2 = Int32.ofNat K.length ∧ zrow (I (a + 1)) (K.map (·.1)) ∧ zrow (I (a + 2)) (K.map (·.2)) ∧ K.length ≤ 300
section ZKEYS
variable (X : zv_X) {b : Bool} {I : zI} {J : zJ} {a : Nat} {x : Int32} {K A B : zKL}
theorem s_below (h : zKy b a) (hK : zKeys I a (A ++ B)) (h1 : ∀ q ∈ A, q.1 < x) (h2 : ∀ q ∈ B, ¬ q.1 < x) : zg_Keys_below_0 X a x (zM b I J) = some (some (.int (Int32.ofNat A.length)), zM b I J) := by
  simp only [zg_Keys_below_0_e, zM_I, zM_P, zob h.1, h.2.2.2.1, zrf, hK.1]
  rw [s_lessThan X h.2.1 hK.2.2.2 (by decide) (zcut_of hK.2.1 h1 h2), zci]
theorem znlt_of_lt {B : zKL} (h : ∀ q ∈ B, x < q.1) : ∀ q ∈ B, ¬ q.1 < x := fun q hq => by
  have := h q hq
  rw [zi_lt] at *
  omega
theorem s_countOf (h : zKy b a) (hK : zKeys I a K) (hs : zSrt K) : zg_Keys_countOf_0 X a x (zM b I J) = some (some (.int (zcnt x K)), zM b I J) := by
  obtain ⟨A, B, h1, h2, ⟨rfl, hc, -⟩ | ⟨c, rfl, hc, -⟩⟩ := zways x K hs
  · rw [hc]
    have hl := hK.2.2.2
    have hl2 : (A ++ B).length = A.length + B.length := List.length_append ..
    simp only [zg_Keys_countOf_0_e, zM_I, zM_P, zob h.1, h.2.2.2.1, zrf, hK.1]
    rw [s_lessThan X h.2.1 hl (by decide) (zcut_of hK.2.1 h1 (znlt_of_lt h2)), zci]
    simp only [zM_I, zM_P, zob h.1, h.2.2.2.1, zrf, hK.1]
    cases B with
    | nil => rw [if_pos (by simp), zg_Keys_countOf_40_e, zg_Keys_countOf_41_e]
    | cons q B =>
      rw [if_neg (by rw [zn_le (by omega) (by omega)]; simp), zix h.2.1 (by have : A.length < (A ++ q :: B).length := (by simp); omega) (by decide)]
      have hq : I (a + 1) A.length = q.1 := by
        have := hK.2.1
        rw [List.map_append, List.map_cons] at this
        simpa using zrow_get this
      have hx := h2 q (List.mem_cons_self ..)
      rw [hq, if_neg (fun e => by rw [e, zi_lt] at hx; omega), zg_Keys_countOf_40_e, zg_Keys_countOf_41_e]
  · rw [hc]
    have hl := hK.2.2.2
    have hl2 : (A ++ (x, c) :: B).length = A.length + (B.length + 1) := by simp
    have hB : ∀ q ∈ (x, c) :: B, ¬ q.1 < x := fun q hq => by
      rcases List.mem_cons.mp hq with rfl | hq
      · rw [zi_lt]; exact Int.lt_irrefl _
      · exact znlt_of_lt h2 q hq
    simp only [zg_Keys_countOf_0_e, zM_I, zM_P, zob h.1, h.2.2.2.1, zrf, hK.1]
    rw [s_lessThan X h.2.1 hl (by decide) (zcut_of hK.2.1 h1 hB), zci]
    simp only [zM_I, zM_P, zob h.1, h.2.2.2.1, h.2.2.2.2, zrf, hK.1]
    have hq1 : I (a + 1) A.length = x := by
      have := hK.2.1
      rw [List.map_append, List.map_cons] at this
      simpa using zrow_get this
    have hq2 : I (a + 2) A.length = c := by
      have := hK.2.2.1
      rw [List.map_append, List.map_cons] at this
      simpa using zrow_get this
    rw [if_neg (by rw [zn_le (by omega) (by omega)]; omega), zix h.2.1 (by omega) (by decide), hq1, if_pos rfl, zix h.2.2.1 (by omega) (by decide), hq2, zg_Keys_countOf_41_e]
theorem s_has (h : zKy b a) (hK : zKeys I a K) (hs : zSrt K) : zg_Keys_has_0 X a x (zM b I J) = some (some (.int (if zcnt x K ≤ 0 then 0 else 1)), zM b I J) := by
  simp only [zg_Keys_has_0_e, zob h.1]
  rw [s_countOf X h hK hs, zci]
  split
  · rw [zg_Keys_has_12_e, zg_Keys_has_13_e, zrb0]
  · rw [zg_Keys_has_13_e, zrb1]
theorem s_canTake (h : zKy b a) (hK : zKeys I a K) (hs : zSrt K) (y : Int32) : zg_Keys_canTake_0 X a x y (zM b I J) = some (some (.int (if 99 < zcnt x K + y ∨ (¬ 0 < zcnt x K ∧ 300 ≤ K.length) then 0 else 1)), zM b I J) := by
  simp only [zg_Keys_canTake_0_e, zob h.1]
  rw [s_countOf X h hK hs, zci]
  simp only [zM_I, zob h.1, hK.1, zg_Keys_canTake_28_e, zg_Keys_canTake_32_e, zg_Keys_canTake_33_e, zrb0, zrb1]
  have hl := hK.2.2.2
  have e3 : (300 : Int32) = Int32.ofNat 300 := rfl
  have e4 : ((300 : Int32) ≤ Int32.ofNat K.length) ↔ 300 ≤ K.length := by rw [e3, zn_le (by decide) (by omega)]
  simp only [e4]
  by_cases c1 : 99 < zcnt x K + y
  · simp [c1]
  · by_cases c2 : 0 < zcnt x K
    · simp [c1, c2]
    · by_cases c3 : 300 ≤ K.length
      · simp [c1, c2, c3]
      · simp [c1, c2, c3]
theorem zrow_ins {f g : Nat → Int32} {A B : List Int32} {v : Int32} (hf : zrow f (A ++ B)) (h1 : ∀ j, j < A.length → g j = f j) (h2 : g A.length = v) (h3 : ∀ j, A.length < j → j ≤ A.length + B.length → g j = f (j - 1)) : zrow g (A ++ v :: B) := by
  intro j w hj
  rcases Nat.lt_trichotomy j A.length with q | q | q
  · rw [h1 j q]
    rw [List.getElem?_append_left q] at hj
    exact hf j w (by rw [List.getElem?_append_left q]; exact hj)
  · subst q
    rw [h2]
    simpa using hj
  · have hl : j < (A ++ v :: B).length := (List.getElem?_eq_some_iff.mp hj).1
    rw [List.length_append, List.length_cons] at hl
    rw [h3 j q (by omega)]
    rw [List.getElem?_append_right (by omega), show j - A.length = (j - 1 - A.length) + 1 by omega, List.getElem?_cons_succ] at hj
    exact hf _ w (by rw [List.getElem?_append_right (by omega)]; exact hj)
theorem zrow_del {f g : Nat → Int32} {A B : List Int32} {v : Int32} (hf : zrow f (A ++ v :: B)) (h1 : ∀ j, j < A.length → g j = f j) (h3 : ∀ j, A.length ≤ j → j < A.length + B.length → g j = f (j + 1)) : zrow g (A ++ B) := by
  intro j w hj
  rcases Nat.lt_or_ge j A.length with q | q
  · rw [h1 j q]
    rw [List.getElem?_append_left q] at hj
    exact hf j w (by rw [List.getElem?_append_left q]; exact hj)
  · have hl : j < (A ++ B).length := (List.getElem?_eq_some_iff.mp hj).1
    rw [List.length_append] at hl
    rw [h3 j q hl]
    rw [List.getElem?_append_right q] at hj
    exact hf _ w (by rw [List.getElem?_append_right (by omega), show j + 1 - A.length = (j - A.length) + 1 by omega, List.getElem?_cons_succ]; exact hj)
theorem zrow_put {f g : Nat → Int32} {A B : List Int32} {v v' : Int32} (hf : zrow f (A ++ v :: B)) (h1 : ∀ j, j ≠ A.length → g j = f j) (h2 : g A.length = v') : zrow g (A ++ v' :: B) := by
  intro j w hj
  rcases Nat.lt_trichotomy j A.length with q | q | q
  · rw [h1 j (by omega)]
    rw [List.getElem?_append_left q] at hj
    exact hf j w (by rw [List.getElem?_append_left q]; exact hj)
  · subst q
    rw [h2]
    simpa using hj
  · rw [h1 j (by omega)]
    rw [List.getElem?_append_right (by omega), show j - A.length = (j - 1 - A.length) + 1 by omega, List.getElem?_cons_succ] at hj
    exact hf _ w (by rw [List.getElem?_append_right (by omega), show j - A.length = (j - 1 - A.length) + 1 by omega, List.getElem?_cons_succ]; exact hj)
def zoff3 (I I' : zI) (a : Nat) : Prop := ∀ c, c ≠ a → c ≠ a + 1 → c ≠ a + 2 → I' c = I c
theorem s_makeWay (h : zKy b a) (hK : zKeys I a (A ++ B)) (hl : (A ++ B).length < 300) : ∃ I', zg_Keys_makeWay_0 X a (Int32.ofNat A.length) x (zM b I J) = some (none, zM b I' J) ∧ zKeys I' a (A ++ (x, 0) :: B) ∧ zoff3 I I' a := by
  have e3 : (300 : Int32) = Int32.ofNat 300 := rfl
  have hlen : (A ++ B).length = A.length + B.length := List.length_append ..
  have hsub : Int32.ofNat (A ++ B).length - Int32.ofNat A.length = Int32.ofNat B.length := by
    rw [zn_sub (by omega), hlen, Nat.add_sub_cancel_left]
  have n1 : a ≠ a + 1 := by omega
  have n2 : a ≠ a + 2 := by omega
  have n12 : a + 2 ≠ a + 1 := by omega
  simp only [zg_Keys_makeWay_0_e, zM_I, zob h.1, hK.1]
  rw [if_pos (by rw [e3, zn_lt (by omega) (by decide)]; exact hl)]
  simp only [zg_Keys_makeWay_11_e, zM_I, zM_P, zob h.1, h.2.2.2.1, h.2.2.2.2, zrf, hK.1, zn_add1, hsub]
  rw [zac h.2.1 h.2.1 (by omega) (by omega) (by decide) (by decide) (by decide)]
  simp only [zM_I, zM_P, zob h.1, h.2.2.2.1, h.2.2.2.2, zrf, zup_ne n1, hK.1, hsub]
  rw [zac h.2.2.1 h.2.2.1 (by omega) (by omega) (by decide) (by decide) (by decide)]
  simp only [zM_I, zM_P, zob h.1, h.2.2.2.1, h.2.2.2.2, zrf]
  rw [zix h.2.1 (by omega) (by decide)]
  simp only [zM_wI, zM_I, zM_P, zob h.1, h.2.2.2.1, h.2.2.2.2, zrf]
  rw [zix h.2.2.1 (by omega) (by decide)]
  try simp only [zM_wI, zM_I, zM_P, zob h.1]
  refine ⟨_, rfl, ⟨?_, ?_, ?_, ?_⟩, ?_⟩
  · rw [zst_self, zst_ne n2, zst_ne n1, zup_ne n2, zup_ne n1, hK.1, zn_add1]
    congr 1
    simp [Nat.add_assoc]
  · have := hK.2.1
    rw [List.map_append] at this
    rw [List.map_append, List.map_cons, zst_ne (by omega), zst_ne (by omega)]
    refine zrow_ins this (fun j hj => ?_) ?_ (fun j hj hj' => ?_)
    · rw [List.length_map] at hj
      rw [zst_off (by omega), zup_ne (by omega), zup_same]
      unfold va_cpy
      rw [if_neg (by omega)]
    · rw [List.length_map, zst_self]
    · rw [List.length_map] at hj hj'
      rw [List.length_map] at hj'
      rw [zst_off (by omega), zup_ne (by omega), zup_same]
      unfold va_cpy
      rw [if_pos (by omega)]
      congr 1
      omega
  · have := hK.2.2.1
    rw [List.map_append] at this
    rw [List.map_append, List.map_cons, zst_ne (by omega)]
    refine zrow_ins this (fun j hj => ?_) ?_ (fun j hj hj' => ?_)
    · rw [List.length_map] at hj
      rw [zst_off (by omega), zst_ne n12, zup_same]
      unfold va_cpy
      rw [if_neg (by omega), zup_ne n12]
    · rw [List.length_map, zst_self]
    · rw [List.length_map] at hj hj'
      rw [List.length_map] at hj'
      rw [zst_off (by omega), zst_ne n12, zup_same]
      unfold va_cpy
      rw [if_pos (by omega), zup_ne n12]
      congr 1
      omega
  · simp at hl ⊢
    omega
  · intro c c1 c2 c3
    rw [zst_ne c1, zst_ne c3, zst_ne c2, zup_ne c3, zup_ne c2]
theorem s_closeUp (h : zKy b a) {q : Int32 × Int32} (hK : zKeys I a (A ++ q :: B)) : ∃ I', zg_Keys_closeUp_0 X a (Int32.ofNat A.length) (zM b I J) = some (none, zM b I' J) ∧ zKeys I' a (A ++ B) ∧ zoff3 I I' a := by
  have hlen : (A ++ q :: B).length = A.length + (B.length + 1) := by simp
  have hl := hK.2.2.2
  have hsub : Int32.ofNat (A ++ q :: B).length - Int32.ofNat A.length - 1 = Int32.ofNat B.length := by
    rw [zn_sub (by omega), zn_sub1 (by omega), hlen]
    congr 1
    omega
  have n1 : a ≠ a + 1 := by omega
  have n2 : a ≠ a + 2 := by omega
  have n12 : a + 2 ≠ a + 1 := by omega
  simp only [zg_Keys_closeUp_0_e, zM_I, zM_P, zob h.1, h.2.2.2.1, h.2.2.2.2, zrf, hK.1, zn_add1, hsub]
  rw [zac h.2.1 h.2.1 (by omega) (by omega) (by decide) (by decide) (by decide)]
  simp only [zM_I, zM_P, zob h.1, h.2.2.2.1, h.2.2.2.2, zrf, zup_ne n1, hK.1, hsub]
  rw [zac h.2.2.1 h.2.2.1 (by omega) (by omega) (by decide) (by decide) (by decide)]
  simp only [zM_wI, zM_I, zM_P, zob h.1]
  refine ⟨_, rfl, ⟨?_, ?_, ?_, ?_⟩, ?_⟩
  · rw [zst_self, zup_ne n2, zup_ne n1, hK.1, zn_sub1 (by omega)]
    congr 1
    simp
    try omega
  · have := hK.2.1
    rw [List.map_append, List.map_cons] at this
    rw [List.map_append, zst_ne (by omega), zup_ne (by omega), zup_same]
    refine zrow_del this (fun j hj => ?_) (fun j hj hj' => ?_)
    · rw [List.length_map] at hj
      unfold va_cpy
      rw [if_neg (by omega)]
    · rw [List.length_map] at hj hj'
      rw [List.length_map] at hj'
      unfold va_cpy
      rw [if_pos (by omega)]
      congr 1
      omega
  · have := hK.2.2.1
    rw [List.map_append, List.map_cons] at this
    rw [List.map_append, zst_ne (by omega), zup_same]
    refine zrow_del this (fun j hj => ?_) (fun j hj hj' => ?_)
    · rw [List.length_map] at hj
      unfold va_cpy
      rw [if_neg (by omega), zup_ne n12]
    · rw [List.length_map] at hj hj'
      rw [List.length_map] at hj'
      unfold va_cpy
      rw [if_pos (by omega), zup_ne n12]
      congr 1
      omega
  · simp at hl ⊢
    omega
  · intro c c1 c2 c3
    rw [zst_ne c1, zup_ne c3, zup_ne c2]
theorem zoff3.trans {I1 I2 I3 : zI} (h : zoff3 I1 I2 a) (h' : zoff3 I2 I3 a) : zoff3 I1 I3 a := fun c c1 c2 c3 => (h' c c1 c2 c3).trans (h c c1 c2 c3)
theorem s_change30 (h : zKy b a) {c y : Int32} (hK : zKeys I a (A ++ (x, c) :: B)) : ∃ I', zg_Keys_change_30 X a x y (Int32.ofNat A.length) (zM b I J) = some (none, zM b I' J) ∧ zKeys I' a (if 0 < c + y then A ++ (x, c + y) :: B else A ++ B) ∧ zoff3 I I' a := by
  have hlen : (A ++ (x, c) :: B).length = A.length + (B.length + 1) := by simp
  have hl := hK.2.2.2
  have n1 : a ≠ a + 1 := by omega
  have n2 : a ≠ a + 2 := by omega
  have hq1 : I (a + 1) A.length = x := by
    have := hK.2.1
    rw [List.map_append, List.map_cons] at this
    simpa using zrow_get this
  have hq2 : I (a + 2) A.length = c := by
    have := hK.2.2.1
    rw [List.map_append, List.map_cons] at this
    simpa using zrow_get this
  simp only [zg_Keys_change_30_e, zM_I, zM_P, zob h.1, h.2.2.2.1, h.2.2.2.2, zrf, hK.1]
  rw [if_neg (by rw [zn_le (by omega) (by omega)]; omega), zix h.2.1 (by omega) (by decide), hq1, if_pos rfl, zix h.2.2.1 (by omega) (by decide), zix h.2.2.1 (by omega) (by decide), hq2]
  simp only [zM_wI, zM_I, zM_P, zob h.1, h.2.2.2.2, zrf]
  rw [zix h.2.2.1 (by omega) (by decide), zst_self]
  have hK2 : zKeys (zst I (a + 2) A.length (c + y)) a (A ++ (x, c + y) :: B) := by
    refine ⟨?_, ?_, ?_, ?_⟩
    · rw [zst_ne n2, hK.1, hlen]; congr 1; simp
    · rw [zst_ne (by omega)]
      have := hK.2.1
      rw [List.map_append, List.map_cons] at this ⊢
      exact this
    · have := hK.2.2.1
      rw [List.map_append, List.map_cons] at this ⊢
      refine zrow_put this (fun j hj => ?_) ?_
      · rw [List.length_map] at hj
        exact zst_off hj
      · rw [List.length_map]; exact zst_self
    · simp at hl ⊢; omega
  have ho : zoff3 I (zst I (a + 2) A.length (c + y)) a := fun c' _ _ c3 => zst_ne c3
  by_cases hp : 0 < c + y
  · rw [if_pos hp, if_pos hp, zg_Keys_change_72_e]
    exact ⟨_, rfl, hK2, ho⟩
  · rw [if_neg hp, if_neg hp]
    obtain ⟨I', e1, e2, e3⟩ := s_closeUp X (J := J) h hK2
    rw [e1, zcv, zg_Keys_change_72_e]
    exact ⟨I', rfl, e2, ho.trans e3⟩
/-- a key's count goes from what it is to v -/
theorem s_change (h : zKy b a) (hK : zKeys I a K) (hs : zSrt K) {y v : Int32} (hv : v = zcnt x K + y) (h0 : 0 ≤ v) (hn : zcnt x K = 0 → K.length < 300 ∧ 0 < v) : ∃ I', zg_Keys_change_0 X a x y (zM b I J) = some (none, zM b I' J) ∧ zKeys I' a (zset x v K) ∧ zoff3 I I' a := by
  have hv0 : (0 < v) ↔ ¬ v = 0 := by
    rw [zi_lt, zi_eq]; rw [zi_le] at h0
    have : (0 : Int32).toInt = 0 := rfl
    omega
  obtain ⟨A, B, h1, h2, ⟨rfl, hc, hz⟩ | ⟨c, rfl, hc, hz⟩⟩ := zways x K hs
  · obtain ⟨hl, hp⟩ := hn hc
    have hlen : (A ++ B).length = A.length + B.length := List.length_append ..
    have key : zg_Keys_change_0 X a x y (zM b I J) = zg_Keys_change_24 X a x y (Int32.ofNat A.length) (zM b I J) := by
      simp only [zg_Keys_change_0_e, zob h.1]
      rw [s_below X h hK h1 (znlt_of_lt h2), zci]
      simp only [zM_I, zM_P, zob h.1, h.2.2.2.1, zrf, hK.1]
      cases B with
      | nil => rw [if_pos (by simp)]
      | cons q B =>
        have hl3 : A.length < (A ++ q :: B).length := (by simp)
        rw [if_neg (by rw [zn_le (by omega) (by omega)]; omega), zix h.2.1 (by omega) (by decide)]
        have hq : I (a + 1) A.length = q.1 := by
          have := hK.2.1
          rw [List.map_append, List.map_cons] at this
          simpa using zrow_get this
        have hx := h2 q (List.mem_cons_self ..)
        rw [hq, if_neg (fun e => by rw [e, zi_lt] at hx; omega)]
    obtain ⟨I1, e1, e2, e3⟩ := s_makeWay X (J := J) (x := x) h hK hl
    obtain ⟨I2, f1, f2, f3⟩ := s_change30 X (J := J) (y := y) h e2
    rw [key, zg_Keys_change_24_e, zob h.1, e1, zcv, f1]
    refine ⟨I2, rfl, ?_, e3.trans f3⟩
    have hvy : (0 : Int32) + y = v := by rw [hv, hc]
    rw [hvy, if_pos hp] at f2
    rw [hz, if_neg (hv0.mp hp)]
    exact f2
  · have hlen : (A ++ (x, c) :: B).length = A.length + (B.length + 1) := by simp
    have hl := hK.2.2.2
    have hB : ∀ q ∈ (x, c) :: B, ¬ q.1 < x := fun q hq => by
      rcases List.mem_cons.mp hq with rfl | hq
      · rw [zi_lt]; exact Int.lt_irrefl _
      · exact znlt_of_lt h2 q hq
    have hq1 : I (a + 1) A.length = x := by
      have := hK.2.1
      rw [List.map_append, List.map_cons] at this
      simpa using zrow_get this
    have key : zg_Keys_change_0 X a x y (zM b I J) = zg_Keys_change_30 X a x y (Int32.ofNat A.length) (zM b I J) := by
      simp only [zg_Keys_change_0_e, zob h.1]
      rw [s_below X h hK h1 hB, zci]
      simp only [zM_I, zM_P, zob h.1, h.2.2.2.1, zrf, hK.1]
      rw [if_neg (by rw [zn_le (by omega) (by omega)]; omega), zix h.2.1 (by omega) (by decide), hq1, if_pos rfl]
    obtain ⟨I2, f1, f2, f3⟩ := s_change30 X (J := J) (y := y) h hK
    rw [key, f1]
    refine ⟨I2, rfl, ?_, f3⟩
    have hvy : c + y = v := by rw [hv, hc]
    rw [hvy] at f2
    rw [hz]
    by_cases hp : v = 0
    · rw [if_neg (fun q => hv0.mp q hp)] at f2
      rw [if_pos hp]; exact f2
    · rw [if_pos (hv0.mpr hp)] at f2
      rw [if_neg hp]; exact f2
theorem s_copyKeys (h : zKy b a) {a' : Nat} (h' : zKy b a') (ha : a ≠ a' ∧ a ≠ a' + 1 ∧ a ≠ a' + 2 ∧ a + 1 ≠ a' ∧ a + 1 ≠ a' + 1 ∧ a + 1 ≠ a' + 2 ∧ a + 2 ≠ a' ∧ a + 2 ≠ a' + 1 ∧ a + 2 ≠ a' + 2) (hK : zKeys I a' K) : ∃ I', zg_Keys_copyFrom_0 X a a' (zM b I J) = some (none, zM b I' J) ∧ zKeys I' a K ∧ zoff3 I I' a := by
  obtain ⟨d1, d2, d3, d4, d5, d6, d7, d8, d9⟩ := ha
  have hl := hK.2.2.2
  have n12 : a + 2 ≠ a + 1 := by omega
  simp only [zg_Keys_copyFrom_0_e, zM_I, zM_P, zob h.1, zob h'.1, h.2.2.2.1, h'.2.2.2.1, zrf, hK.1]
  rw [zac0 h'.2.1 h.2.1 hl hl (by decide) (by decide) (by decide)]
  simp only [zM_I, zM_P, zob h.1, zob h'.1, h.2.2.2.2, h'.2.2.2.2, zrf, zup_ne (Ne.symm d4), hK.1]
  rw [zac0 h'.2.2.1 h.2.2.1 hl hl (by decide) (by decide) (by decide)]
  simp only [zM_wI, zM_I, zM_P, zob h.1, zob h'.1, zup_ne (Ne.symm d4), zup_ne (Ne.symm d7), hK.1]
  refine ⟨_, rfl, ⟨zst_self, ?_, ?_, hl⟩, ?_⟩
  · rw [zst_ne (by omega), zup_ne (by omega), zup_same]
    intro j w hj
    have hjl : j < (K.map (·.1)).length := (List.getElem?_eq_some_iff.mp hj).1
    rw [List.length_map] at hjl
    unfold va_cpy
    rw [if_pos (by omega)]
    simpa using hK.2.1 j w hj
  · rw [zst_ne (by omega), zup_same]
    intro j w hj
    have hjl : j < (K.map (·.2)).length := (List.getElem?_eq_some_iff.mp hj).1
    rw [List.length_map] at hjl
    unfold va_cpy
    rw [if_pos (by omega), zup_ne (Ne.symm d6)]
    simpa using hK.2.2.1 j w hj
  · intro c c1 c2 c3
    rw [zst_ne c1, zup_ne c3, zup_ne c2]
end ZKEYS
