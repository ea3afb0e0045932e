/-! the row and the buffer: what the keys are to them -/
section ZKP
variable {x v : Int32} {A B K : zKL} {R : List Int32}
theorem zset_mid0 (h1 : ∀ q ∈ A, q.1 < x) (h2 : ∀ q ∈ B, x < q.1) : zset x v (A ++ B) = if v = 0 then A ++ B else A ++ (x, v) :: B := by
  rw [zset_app h1]
  cases B with
  | nil => rw [zset]; split <;> rfl
  | cons q B =>
    have hx := h2 q (List.mem_cons_self ..)
    rw [zset, if_neg (by rw [zi_lt] at *; omega), if_neg (by rw [zi_lt] at hx; rw [zi_eq]; omega)]
    split <;> rfl
theorem zset_mid1 {c : Int32} (h1 : ∀ q ∈ A, q.1 < x) : zset x v (A ++ (x, c) :: B) = if v = 0 then A ++ B else A ++ (x, v) :: B := by
  rw [zset_app h1, zset, if_neg (by rw [zi_lt]; exact Int.lt_irrefl _), if_pos rfl]
  split <;> rfl
theorem zcnt_mem : ∀ {K : zKL}, zcnt x K ≠ 0 → ∃ q ∈ K, q.1 = x
  | [], h => absurd rfl h
  | q :: K, h => by
    by_cases e : q.1 = x
    · exact ⟨q, List.mem_cons_self .., e⟩
    · rw [zcnt, if_neg e] at h
      obtain ⟨p, hp, e2⟩ := zcnt_mem h
      exact ⟨p, List.mem_cons_of_mem _ hp, e2⟩
theorem zSrt_mid0 (h1 : ∀ q ∈ A, q.1 < x) (h2 : ∀ q ∈ B, x < q.1) (hs : zSrt (A ++ B)) : zSrt (A ++ (x, v) :: B) := by
  have h := List.pairwise_append.mp hs
  refine List.pairwise_append.mpr ⟨h.1, List.pairwise_cons.mpr ⟨h2, h.2.1⟩, fun p hp q hq => ?_⟩
  rcases List.mem_cons.mp hq with rfl | hq
  · exact h1 p hp
  · exact h.2.2 p hp q hq
theorem zSrt_set (hs : zSrt K) : zSrt (zset x v K) := by
  obtain ⟨A, B, h1, h2, ⟨rfl, -, hz⟩ | ⟨c, rfl, -, hz⟩⟩ := zways x K hs
  · rw [hz]
    split
    · exact hs
    · exact zSrt_mid0 h1 h2 hs
  · have hs' : zSrt (A ++ B) := List.Pairwise.sublist (List.Sublist.append (List.Sublist.refl A) (List.sublist_cons_self (x, c) B)) hs
    rw [hz]
    split
    · exact hs'
    · exact zSrt_mid0 h1 h2 hs'
theorem zcnt_set (hs : zSrt K) (y : Int32) : zcnt y (zset x v K) = if y = x then v else zcnt y K := by
  obtain ⟨A, B, h1, h2, hc⟩ := zways x K hs
  have key : ∀ (L : zKL), (L = A ++ B ∨ ∃ c, L = A ++ (x, c) :: B) → y ≠ x → zcnt y L = zcnt y (A ++ B) := by
    rintro L (rfl | ⟨c, rfl⟩) hy
    · rfl
    · clear h1 hc hs
      induction A with
      | nil => rw [List.nil_append, zcnt, if_neg (fun e => hy e.symm)]; rfl
      | cons q A ih => rw [List.cons_append, List.cons_append, zcnt, zcnt, ih]
  have kx : ∀ c : Int32, zcnt x (A ++ (x, c) :: B) = c := fun c => by rw [zcnt_app h1, zcnt, if_pos rfl]
  have k0 : zcnt x (A ++ B) = 0 := by rw [zcnt_app h1, zcnt_gt h2]
  have hz : ∀ v, zset x v K = if v = 0 then A ++ B else A ++ (x, v) :: B := by
    rcases hc with ⟨-, -, hz⟩ | ⟨c, -, -, hz⟩ <;> exact hz
  have hK : K = A ++ B ∨ ∃ c, K = A ++ (x, c) :: B := by
    rcases hc with ⟨rfl, -⟩ | ⟨c, rfl, -⟩
    · exact Or.inl rfl
    · exact Or.inr ⟨c, rfl⟩
  rw [hz]
  by_cases hy : y = x
  · subst hy
    rw [if_pos rfl]
    by_cases hv : v = 0
    · rw [if_pos hv, k0, hv]
    · rw [if_neg hv, kx]
  · rw [if_neg hy, key K hK hy]
    by_cases hv : v = 0
    · rw [if_pos hv]
    · rw [if_neg hv, key _ (Or.inr ⟨v, rfl⟩) hy]
def zin (R : List Int32) (x : Int32) : Bool := R.contains x
def zRK (K : zKL) (R : List Int32) : zKL := R.map (fun r => (r, zcnt r K))
def zWt (K : zKL) (R : List Int32) : zKL := K.filter (fun q => !zin R q.1)
theorem zin_iff {r : Int32} : zin R r = true ↔ r ∈ R := by simp [zin]
theorem zfc_pos {p : Int32 → Bool} {q : Int32 × Int32} {K : zKL} (h : p q.1 = true) : (q :: K).filter (fun q => p q.1) = q :: K.filter (fun q => p q.1) := by simp [h]
theorem zfilter_set (p : Int32 → Bool) (hs : zSrt K) : (zset x v K).filter (fun q => p q.1) = if p x = true then zset x v (K.filter (fun q => p q.1)) else K.filter (fun q => p q.1) := by
  obtain ⟨A, B, h1, h2, hc⟩ := zways x K hs
  have hA : ∀ q ∈ A.filter (fun q => p q.1), q.1 < x := fun q hq => h1 q (List.mem_filter.mp hq).1
  have hB : ∀ q ∈ B.filter (fun q => p q.1), x < q.1 := fun q hq => h2 q (List.mem_filter.mp hq).1
  rcases hc with ⟨rfl, -, hz⟩ | ⟨c, rfl, -, hz⟩
  · rw [hz]
    by_cases hp : p x = true
    · rw [if_pos hp, List.filter_append, zset_mid0 hA hB]
      split
      · rw [List.filter_append]
      · rw [List.filter_append, zfc_pos (show p (x, _).1 = true from hp)]
    · rw [if_neg hp]
      split
      · rfl
      · rw [List.filter_append, List.filter_cons_of_neg (by simpa using hp), List.filter_append]
  · rw [hz]
    by_cases hp : p x = true
    · rw [if_pos hp, List.filter_append, zfc_pos (show p (x, _).1 = true from hp), zset_mid1 hA]
      split
      · rw [List.filter_append]
      · rw [List.filter_append, zfc_pos (show p (x, _).1 = true from hp)]
    · rw [if_neg hp, List.filter_append, List.filter_cons_of_neg (by simpa using hp)]
      split
      · rw [List.filter_append]
      · rw [List.filter_append, List.filter_cons_of_neg (by simpa using hp)]
theorem zWt_set (hs : zSrt K) : zWt (zset x v K) R = if x ∈ R then zWt K R else zset x v (zWt K R) := by
  unfold zWt
  rw [zfilter_set (fun r => !zin R r) hs]
  by_cases h : x ∈ R
  · rw [if_neg (by simp [zin_iff.mpr h]), if_pos h]
  · rw [if_pos (by simp [zin, h]), if_neg h]
theorem zRK_set (hs : zSrt K) (h : x ∉ R) : zRK (zset x v K) R = zRK K R := by
  unfold zRK
  apply List.map_congr_left
  intro r hr
  rw [zcnt_set hs, if_neg (show ¬ r = x from fun e => h (e ▸ hr))]
theorem zcnt_filter (p : Int32 → Bool) (h : p x = true) : ∀ K : zKL, zcnt x (K.filter (fun q => p q.1)) = zcnt x K
  | [] => rfl
  | q :: K => by
    by_cases e : q.1 = x
    · rw [List.filter_cons_of_pos (by rw [e]; exact h), zcnt, zcnt, if_pos e, if_pos e]
    · by_cases hq : p q.1 = true
      · rw [zfc_pos hq, zcnt, zcnt, if_neg e, if_neg e, zcnt_filter p h K]
      · rw [List.filter_cons_of_neg (by simpa using hq), zcnt_filter p h K, zcnt, if_neg e]
theorem zcnt_Wt (h : x ∉ R) : zcnt x (zWt K R) = zcnt x K := zcnt_filter (fun r => !zin R r) (by simp [zin, h]) K
theorem zSrt_Wt (hs : zSrt K) : zSrt (zWt K R) := List.Pairwise.filter _ hs
theorem zcnt_RK : zcnt x (zRK K R) = if x ∈ R then zcnt x K else 0 := by
  unfold zRK
  induction R with
  | nil => simp [zcnt]
  | cons r R ih =>
    rw [List.map_cons, zcnt]
    by_cases e : r = x
    · subst e; simp
    · rw [if_neg e, ih]
      have : x ∈ r :: R ↔ x ∈ R := by simp [Ne.symm e]
      simp only [this]
theorem zSrt_RK (hR : R.Pairwise (· < ·)) : zSrt (zRK K R) := by
  unfold zRK zSrt
  rw [List.pairwise_map]
  exact hR
/-- the row and the buffer, merged, are the keys -/
def zmrg : zKL → zKL → zKL
  | [], W => W
  | q :: L, W => W.takeWhile (fun p => decide (p.1 < q.1)) ++ ((if q.2 = 0 then [] else [q]) ++ zmrg L (W.dropWhile (fun p => decide (p.1 < q.1))))
theorem ztake_app {A B : zKL} {x : Int32} (h1 : ∀ q ∈ A, q.1 < x) (h2 : ∀ q ∈ B, ¬ q.1 < x) : (A ++ B).takeWhile (fun p => decide (p.1 < x)) = A ∧ (A ++ B).dropWhile (fun p => decide (p.1 < x)) = B := by
  have hB : B.takeWhile (fun p => decide (p.1 < x)) = [] ∧ B.dropWhile (fun p => decide (p.1 < x)) = B := by
    cases B with
    | nil => exact ⟨rfl, rfl⟩
    | cons q B =>
      have := h2 q (List.mem_cons_self ..)
      exact ⟨List.takeWhile_cons_of_neg (by simpa using this), List.dropWhile_cons_of_neg (by simpa using this)⟩
  constructor
  · rw [List.takeWhile_append_of_pos (fun q hq => by simpa using h1 q hq), hB.1, List.append_nil]
  · rw [List.dropWhile_append_of_pos (fun q hq => by simpa using h1 q hq), hB.2]
theorem zmrg_all : ∀ (R : List Int32) (K : zKL), R.Pairwise (· < ·) → zSrt K → (∀ q ∈ K, q.2 ≠ 0) → zmrg (zRK K R) (zWt K R) = K
  | [], K, _, _, _ => by simp [zRK, zWt, zmrg, zin]
  | r :: R, K, hR, hs, h0 => by
    obtain ⟨hr, hR'⟩ := List.pairwise_cons.mp hR
    obtain ⟨A, B, h1, h2, hc⟩ := zways r K hs
    have hA : zWt A (r :: R) = A := by
      unfold zWt
      apply List.filter_eq_self.mpr
      intro q hq
      have hq1 := h1 q hq
      have : q.1 ∉ r :: R := fun hm => by
        rcases List.mem_cons.mp hm with e | hm
        · rw [e, zi_lt] at hq1; omega
        · have := hr _ hm
          rw [zi_lt] at this hq1; omega
      simp [zin, this]
    have hB : zWt B (r :: R) = zWt B R := by
      unfold zWt
      apply List.filter_congr
      intro q hq
      have hq1 := h2 q hq
      have : (q.1 ∈ r :: R) ↔ q.1 ∈ R := by
        rw [List.mem_cons]
        constructor
        · rintro (e | h)
          · rw [e, zi_lt] at hq1; omega
          · exact h
        · exact Or.inr
      simp [zin, this]
    have hWB : ∀ q ∈ zWt B R, ¬ q.1 < r := fun q hq => by
      have := h2 q (List.mem_filter.mp hq).1
      rw [zi_lt] at *; omega
    have hsub : zSrt B := by
      rcases hc with ⟨rfl, -⟩ | ⟨c, rfl, -⟩
      · exact (List.pairwise_append.mp hs).2.1
      · exact (List.pairwise_cons.mp (List.pairwise_append.mp hs).2.1).2
    have hRK : ∀ r' ∈ R, zcnt r' K = zcnt r' B := fun r' hr' => by
      have hlt := hr r' hr'
      have hA' : ∀ q ∈ A, q.1 < r' := fun q hq => by
        have := h1 q hq
        rw [zi_lt] at *; omega
      rcases hc with ⟨rfl, -⟩ | ⟨c, rfl, -⟩
      · exact zcnt_app hA'
      · rw [zcnt_app hA', zcnt, if_neg (show ¬ r = r' from fun e => by rw [e, zi_lt] at hlt; omega)]
    have hRK2 : zRK K R = zRK B R := by
      unfold zRK
      exact List.map_congr_left (fun r' hr' => by rw [hRK r' hr'])
    rcases hc with ⟨rfl, hcz, -⟩ | ⟨c, rfl, hcz, -⟩
    · have hW : zWt (A ++ B) (r :: R) = A ++ zWt B R := by
        have : zWt (A ++ B) (r :: R) = zWt A (r :: R) ++ zWt B (r :: R) := List.filter_append ..
        rw [this, hA, hB]
      have e : zRK (A ++ B) (r :: R) = (r, zcnt r (A ++ B)) :: zRK (A ++ B) R := rfl
      rw [e, hW, zmrg, (ztake_app h1 hWB).1, (ztake_app h1 hWB).2, hcz, if_pos rfl, List.nil_append, hRK2, zmrg_all R B hR' hsub (fun q hq => h0 q (List.mem_append_right _ hq))]
    · have hc0 : c ≠ 0 := h0 (r, c) (by simp)
      have hW : zWt (A ++ (r, c) :: B) (r :: R) = A ++ zWt B R := by
        have : zWt (A ++ (r, c) :: B) (r :: R) = zWt A (r :: R) ++ zWt ((r, c) :: B) (r :: R) := List.filter_append ..
        rw [this, hA]
        have e2 : zWt ((r, c) :: B) (r :: R) = zWt B (r :: R) := by
          unfold zWt
          exact List.filter_cons_of_neg (by simp [zin])
        rw [e2, hB]
      have e : zRK (A ++ (r, c) :: B) (r :: R) = (r, zcnt r (A ++ (r, c) :: B)) :: zRK (A ++ (r, c) :: B) R := rfl
      rw [e, hW, zmrg, (ztake_app h1 hWB).1, (ztake_app h1 hWB).2, hcz, if_neg hc0, hRK2, zmrg_all R B hR' hsub (fun q hq => h0 q (List.mem_append_right _ (List.mem_cons_of_mem _ hq)))]
      rfl
end ZKP
