section ZFIX
theorem zif_spec {α : Type} {b : ClassFile.Cond} {x y : Int32} {A B : Option α} {r : α} (h : zv_if b x y A B = some r) : (A = some r ∧ ∀ A' B' : Option α, zv_if b x y A' B' = A') ∨ (B = some r ∧ ∀ A' B' : Option α, zv_if b x y A' B' = B') := by
  unfold zv_if at h
  cases b <;> (dsimp only at h; split at h <;> rename_i hc <;> first | exact Or.inl ⟨h, fun A' B' => by simp [zv_if, hc]⟩ | exact Or.inr ⟨h, fun A' B' => by simp [zv_if, hc]⟩)
theorem zbk_spec {α : Type} {rk : Nat} {o : Option zv_R} {st : List Value} {k : List Value → zv_M → Option α} {r : α} (h : zv_bk rk o st k = some r) : ∃ r1 st', o = some r1 ∧ k st' r1.2 = some r ∧ st' = r1.1.toList ++ st ∧ ∀ k' : List Value → zv_M → Option α, zv_bk rk (some r1) st k' = k' st' r1.2 := by
  unfold zv_bk at h
  split at h
  · unfold zv_cv at h
    split at h
    · exact ⟨_, _, rfl, h, rfl, fun k' => rfl⟩
    · cases h
  · unfold zv_ci at h
    split at h
    · exact ⟨_, _, rfl, h, rfl, fun k' => rfl⟩
    · cases h
  · unfold zv_cl at h
    split at h
    · exact ⟨_, _, rfl, h, rfl, fun k' => rfl⟩
    · cases h
  · unfold zv_cr at h
    split at h
    · exact ⟨_, _, rfl, h, rfl, fun k' => rfl⟩
    · cases h
  · cases h
theorem zrcv_spec {α : Type} {b : Nat} {v : Value} {μ : zv_M} {r : Option α} {y : α} (h : zv_rcv b v μ r = some y) : r = some y ∧ ∀ r' : Option α, zv_rcv b v μ r' = r' := by
  unfold zv_rcv at h
  split at h
  · obtain ⟨h1, h2⟩ := zob_spec h
    exact ⟨h2, fun r' => by simp [zv_rcv, zv_ob, h1]⟩
  · split at h
    · rename_i hc
      exact ⟨h, fun r' => by simp [zv_rcv, hc]⟩
    · cases h
  · cases h
abbrev zK3 : Type := zv_L → List Value → zv_M → Option zv_R
/-- one instruction: a jump, an answer, a step, or a call -/
def zone_S (X : zv_X) (m : Nat) (K : zv_C → Option zv_R) (q : zv_I) (ls : zv_L) (st : List Value) (μ : zv_M) (k : zK3) (r : zv_R) : Prop :=
  (∃ c', K c' = some r ∧ ∀ (K' : zv_C → Option zv_R) (k' : zK3), K' c' = some r → zv_one X m K' q ls st μ k' = some r) ∨
  (∀ (K' : zv_C → Option zv_R) (k' : zK3), zv_one X m K' q ls st μ k' = some r) ∨
  (∃ t : zv_L × List Value × zv_M, k t.1 t.2.1 t.2.2 = some r ∧ ∀ (K' : zv_C → Option zv_R) (k' : zK3), k' t.1 t.2.1 t.2.2 = some r → zv_one X m K' q ls st μ k' = some r) ∨
  (∃ (c' : zv_C) (r1 : zv_R) (st' : List Value), K c' = some r1 ∧ k ls st' r1.2 = some r ∧ ∀ (K' : zv_C → Option zv_R) (k' : zK3), K' c' = some r1 → k' ls st' r1.2 = some r → zv_one X m K' q ls st μ k' = some r)
theorem zone_op {X : zv_X} {m : Nat} {K : zv_C → Option zv_R} {q : zv_I} {ls : zv_L} {st : List Value} {μ : zv_M} {k : zK3} {r : zv_R} (h : zv_op X q.2.1 q.2.2 ls st μ k = some r) (he : ∀ (K' : zv_C → Option zv_R) (k' : zK3), zv_one X m K' q ls st μ k' = zv_op X q.2.1 q.2.2 ls st μ k') : zone_S X m K q ls st μ k r := by
  obtain ⟨t, h1, h2, -⟩ := zop_par h
  exact Or.inr (Or.inr (Or.inl ⟨t, h1, fun K' k' h9 => by rw [he, h2]; exact h9⟩))
theorem zone_cS {X : zv_X} {m : Nat} {K : zv_C → Option zv_R} {q : zv_I} {ls : zv_L} {st : List Value} {μ : zv_M} {k : zK3} {r : zv_R} {b n rk : Nat} (h : zv_cS m K b n rk st μ (fun st μ => k ls st μ) = some r) (he : ∀ (K' : zv_C → Option zv_R) (k' : zK3), zv_one X m K' q ls st μ k' = zv_cS m K' b n rk st μ (fun st μ => k' ls st μ)) : zone_S X m K q ls st μ k r := by
  unfold zv_cS at h
  split at h
  · rename_i hc
    obtain ⟨r1, st', h1, h2, -, h3⟩ := zbk_spec h
    refine Or.inr (Or.inr (Or.inr ⟨_, r1, st', h1, h2, fun K' k' g1 g2 => ?_⟩))
    rw [he]
    unfold zv_cS
    rw [if_pos hc, g1, h3]
    exact g2
  · cases h
theorem zone_cV {X : zv_X} {m kd : Nat} {K : zv_C → Option zv_R} {q : zv_I} {ls : zv_L} {st : List Value} {μ : zv_M} {k : zK3} {r : zv_R} {b n rk : Nat} (h : zv_cV m kd K b n rk st μ (fun st μ => k ls st μ) = some r) (he : ∀ (K' : zv_C → Option zv_R) (k' : zK3), zv_one X m K' q ls st μ k' = zv_cV m kd K' b n rk st μ (fun st μ => k' ls st μ)) : zone_S X m K q ls st μ k r := by
  unfold zv_cV at h
  split at h
  · rename_i v rest hv
    split at h
    · rename_i hc
      obtain ⟨h, h4⟩ := zrcv_spec h
      obtain ⟨r1, st', h1, h2, -, h3⟩ := zbk_spec h
      refine Or.inr (Or.inr (Or.inr ⟨_, r1, st', h1, h2, fun K' k' g1 g2 => ?_⟩))
      rw [he]
      unfold zv_cV
      rw [hv]
      dsimp only
      rw [if_pos hc, h4, g1, h3]
      exact g2
    · cases h
  · cases h
theorem zone_spec {X : zv_X} {m : Nat} {K : zv_C → Option zv_R} {q : zv_I} {ls : zv_L} {st : List Value} {μ : zv_M} {k : zK3} {r : zv_R} (h : zv_one X m K q ls st μ k = some r) : zone_S X m K q ls st μ k r := by
  obtain ⟨pc, i, d⟩ := q
  unfold zv_one at h
  dsimp only at h
  split at h
  · split at h
    · exact Or.inl ⟨_, h, fun K' k' g => g⟩
    · cases h
  · split at h
    · exact Or.inl ⟨_, h, fun K' k' g => g⟩
    · cases h
  · split at h
    · rcases zif_spec h with ⟨h1, h2⟩ | ⟨h1, h2⟩
      · exact Or.inl ⟨_, h1, fun K' k' g => (h2 _ _).trans g⟩
      · exact Or.inr (Or.inr (Or.inl ⟨(_, _, _), h1, fun K' k' g => (h2 _ _).trans g⟩))
    · cases h
  · split at h
    · rcases zif_spec h with ⟨h1, h2⟩ | ⟨h1, h2⟩
      · exact Or.inl ⟨_, h1, fun K' k' g => (h2 _ _).trans g⟩
      · exact Or.inr (Or.inr (Or.inl ⟨(_, _, _), h1, fun K' k' g => (h2 _ _).trans g⟩))
    · cases h
  · split at h
    · exact Or.inr (Or.inr (Or.inl ⟨(_, _, _), h, fun K' k' g => g⟩))
    · cases h
  · rename_i df lo hi offs
    split at h
    · rename_i n0 l0 tg x st
      split at h
      · rename_i hc
        refine Or.inl ⟨_, h, fun K' k' g => ?_⟩
        unfold zv_one
        dsimp only
        rw [if_pos hc]
        exact g
      · rename_i hc
        split at h
        · rename_i l1 hl1
          refine Or.inl ⟨_, h, fun K' k' g => ?_⟩
          unfold zv_one
          dsimp only
          rw [if_neg hc, hl1]
          exact g
        · cases h
    · cases h
  · split at h
    · exact Or.inr (Or.inl (fun K' k' => h))
    · cases h
  · split at h
    · exact Or.inr (Or.inl (fun K' k' => h))
    · cases h
  · split at h
    · exact Or.inr (Or.inl (fun K' k' => h))
    · cases h
  · split at h
    · exact Or.inr (Or.inl (fun K' k' => h))
    · cases h
  · split at h
    · exact zone_cS h (fun K' k' => rfl)
    · rename_i hd
      refine zone_op h (fun K' k' => ?_)
      unfold zv_one
      dsimp only
      split
      · exact (hd _ _ _ rfl).elim
      · rfl
  · split at h
    · exact zone_cV h (fun K' k' => rfl)
    · rename_i hd
      refine zone_op h (fun K' k' => ?_)
      unfold zv_one
      dsimp only
      split
      · exact (hd _ _ _ rfl).elim
      · rfl
  · split at h
    · exact zone_cV h (fun K' k' => rfl)
    · rename_i hd
      refine zone_op h (fun K' k' => ?_)
      unfold zv_one
      dsimp only
      split
      · exact (hd _ _ _ rfl).elim
      · rfl
  · refine zone_op h (fun K' k' => ?_)
    unfold zv_one
    dsimp only
    split <;> first | rfl | (exfalso; simp_all; done) | (exfalso; simp_all; rename_i hx; exact hx _ _ _ _ rfl rfl rfl rfl)
theorem zexe_mono {X : zv_X} {m : Nat} {K K' : zv_C → Option zv_R} (hK : ∀ c r, K c = some r → K' c = some r) : ∀ (is : List zv_I) (ls : zv_L) (st : List Value) (μ : zv_M) (r : zv_R), zv_exe X m K is ls st μ = some r → zv_exe X m K' is ls st μ = some r
  | [], _, _, _, _, h => by cases h
  | q :: is, ls, st, μ, r, h => by
    have h : zv_one X m K q ls st μ (fun ls st μ => zv_exe X m K is ls st μ) = some r := h
    show zv_one X m K' q ls st μ (fun ls st μ => zv_exe X m K' is ls st μ) = some r
    rcases zone_spec h with ⟨c', h1, h2⟩ | h2 | ⟨t, h1, h2⟩ | ⟨c', r1, st', h1, h3, h2⟩
    · exact h2 _ _ (hK _ _ h1)
    · exact h2 _ _
    · exact h2 _ _ (zexe_mono hK is _ _ _ _ h1)
    · exact h2 _ _ (hK _ _ h1) (zexe_mono hK is _ _ _ _ h3)
theorem zstep_mono {X : zv_X} {K K' : zv_C → Option zv_R} (hK : ∀ c r, K c = some r → K' c = some r) {c : zv_C} {r : zv_R} (h : zv_step X K c = some r) : zv_step X K' c = some r := by
  unfold zv_step at h ⊢
  split at h
  · exact zexe_mono hK _ _ _ _ _ h
  · cases h
theorem zrun_succ {X : zv_X} : ∀ (n : Nat) (c : zv_C) (r : zv_R), zv_run X n c = some r → zv_run X (n + 1) c = some r
  | 0, _, _, h => by cases h
  | n + 1, c, r, h => zstep_mono (zrun_succ n) h
theorem zrun_le {X : zv_X} {n n' : Nat} (hn : n ≤ n') {c : zv_C} {r : zv_R} (h : zv_run X n c = some r) : zv_run X n' c = some r := by
  induction hn with
  | refl => exact h
  | step _ ih => exact zrun_succ _ _ _ ih
theorem zR_of {X : zv_X} {n : Nat} {c : zv_C} {r : zv_R} (h : zv_run X n c = some r) : zR X c = some r := by
  have hx : ∃ n, (zv_run X n c).isSome = true := ⟨n, by rw [h]; rfl⟩
  unfold zR
  rw [dif_pos hx]
  obtain ⟨r', hr'⟩ := Option.isSome_iff_exists.mp (Classical.choose_spec hx)
  rw [hr']
  rcases Nat.le_total n (Classical.choose hx) with h9 | h9
  · rw [← hr']
    exact zrun_le h9 h
  · rw [← h]
    exact (zrun_le h9 hr').symm
theorem zR_to {X : zv_X} {c : zv_C} {r : zv_R} (h : zR X c = some r) : ∃ n, zv_run X n c = some r := by
  unfold zR at h
  by_cases hx : ∃ n, (zv_run X n c).isSome = true
  · rw [dif_pos hx] at h
    exact ⟨_, h⟩
  · rw [dif_neg hx] at h
    cases h
theorem zexe_cont {X : zv_X} {m : Nat} : ∀ (is : List zv_I) (ls : zv_L) (st : List Value) (μ : zv_M) (r : zv_R), zv_exe X m (zR X) is ls st μ = some r → ∃ n, zv_exe X m (zv_run X n) is ls st μ = some r
  | [], _, _, _, _, h => by cases h
  | q :: is, ls, st, μ, r, h => by
    have h : zv_one X m (zR X) q ls st μ (fun ls st μ => zv_exe X m (zR X) is ls st μ) = some r := h
    rcases zone_spec h with ⟨c', h1, h2⟩ | h2 | ⟨t, h1, h2⟩ | ⟨c', r1, st', h1, h3, h2⟩
    · obtain ⟨n, hn⟩ := zR_to h1
      exact ⟨n, h2 _ _ hn⟩
    · exact ⟨0, h2 _ _⟩
    · obtain ⟨n, hn⟩ := zexe_cont is _ _ _ _ h1
      exact ⟨n, h2 _ _ hn⟩
    · obtain ⟨n, hn⟩ := zR_to h1
      obtain ⟨n2, hn2⟩ := zexe_cont is _ _ _ _ h3
      exact ⟨max n n2, h2 _ _ (zrun_le (Nat.le_max_left _ _) hn) (zexe_mono (fun c r h9 => zrun_le (Nat.le_max_right _ _) h9) _ _ _ _ _ hn2)⟩
/-- the run unrolled once -/
theorem zR_step (X : zv_X) (c : zv_C) : zR X c = zv_step X (zR X) c := by
  apply Option.ext
  intro r
  constructor
  · intro h
    obtain ⟨n, hn⟩ := zR_to h
    cases n with
    | zero => cases hn
    | succ n => exact zstep_mono (fun c r h9 => zR_of h9) hn
  · intro h
    unfold zv_step at h
    split at h
    · rename_i b hb
      obtain ⟨n, hn⟩ := zexe_cont _ _ _ _ _ h
      refine zR_of (n := n + 1) ?_
      show zv_step X (zv_run X n) c = some r
      unfold zv_step
      rw [hb]
      exact hn
    · cases h
theorem zone_ge {X : zv_X} {m : Nat} {K : zv_C → Option zv_R} {q : zv_I} {ls : zv_L} {st : List Value} {μ : zv_M} {k : zK3} {r : zv_R} (hK : ∀ c r, K c = some r → c.2.2.2.2.1.length ≤ r.2.1.length ∧ zsl c.2.2.2.2.1 ≤ zsl r.2.1) (hk : ∀ ls st μ, k ls st μ = some r → μ.1.length ≤ r.2.1.length ∧ zsl μ.1 ≤ zsl r.2.1) (h : zv_one X m K q ls st μ k = some r) : μ.1.length ≤ r.2.1.length ∧ zsl μ.1 ≤ zsl r.2.1 := by
  have hJ : ∀ (l : Nat) (ls : zv_L) (st : List Value), K (zv_jmp m l ls st μ) = some r → μ.1.length ≤ r.2.1.length ∧ zsl μ.1 ≤ zsl r.2.1 := by
    intro l ls st h9
    have h1 := hK _ _ h9
    unfold zv_jmp at h1
    split at h1 <;> exact h1
  have hO : ∀ {i : Instr} {d : List Nat}, zv_op X i d ls st μ k = some r → μ.1.length ≤ r.2.1.length ∧ zsl μ.1 ≤ zsl r.2.1 := by
    intro i d h9
    obtain ⟨t, h1, -, h2, h3⟩ := zop_par h9
    have h4 := hk _ _ _ h1
    omega
  have hB : ∀ {rk : Nat} {c' : zv_C} {st' : List Value}, c'.2.2.2.2 = μ → zv_bk rk (K c') st' (fun st μ => k ls st μ) = some r → μ.1.length ≤ r.2.1.length ∧ zsl μ.1 ≤ zsl r.2.1 := by
    intro rk c' st' hc h9
    obtain ⟨r1, st2, h1, h2, -, -⟩ := zbk_spec h9
    have h3 := hK _ _ h1
    have h4 := hk _ _ _ h2
    rw [hc] at h3
    omega
  have hV : ∀ {kd b n rk : Nat}, zv_cV m kd K b n rk st μ (fun st μ => k ls st μ) = some r → μ.1.length ≤ r.2.1.length ∧ zsl μ.1 ≤ zsl r.2.1 := by
    intro kd b n rk h9
    unfold zv_cV at h9
    split at h9
    · split at h9
      · exact hB rfl (zrcv_spec h9).1
      · cases h9
    · cases h9
  obtain ⟨pc, i, d⟩ := q
  unfold zv_one at h
  dsimp only at h
  split at h
  · split at h
    · exact hJ _ _ _ h
    · cases h
  · split at h
    · exact hJ _ _ _ h
    · cases h
  · split at h
    · rcases zif_spec h with ⟨h1, -⟩ | ⟨h1, -⟩
      · exact hJ _ _ _ h1
      · exact hk _ _ _ h1
    · cases h
  · split at h
    · rcases zif_spec h with ⟨h1, -⟩ | ⟨h1, -⟩
      · exact hJ _ _ _ h1
      · exact hk _ _ _ h1
    · cases h
  · split at h
    · exact hk _ _ _ h
    · cases h
  · split at h
    · split at h
      · exact hJ _ _ _ h
      · split at h
        · exact hJ _ _ _ h
        · cases h
    · cases h
  · split at h
    · unfold zv_rt at h
      split at h
      · cases h; exact ⟨Nat.le_refl _, Nat.le_refl _⟩
      · split at h <;> cases h; exact ⟨Nat.le_refl _, Nat.le_refl _⟩
      · split at h <;> cases h; exact ⟨Nat.le_refl _, Nat.le_refl _⟩
      · split at h <;> cases h; exact ⟨Nat.le_refl _, Nat.le_refl _⟩
      · cases h
    · cases h
  · split at h
    · split at h <;> cases h; exact ⟨Nat.le_refl _, Nat.le_refl _⟩
    · cases h
  · split at h
    · split at h <;> cases h; exact ⟨Nat.le_refl _, Nat.le_refl _⟩
    · cases h
  · split at h
    · split at h <;> cases h; exact ⟨Nat.le_refl _, Nat.le_refl _⟩
    · cases h
  · split at h
    · unfold zv_cS at h
      split at h
      · exact hB rfl h
      · cases h
    · exact hO h
  · split at h
    · exact hV h
    · exact hO h
  · split at h
    · exact hV h
    · exact hO h
  · exact hO h
theorem zrun_ge {X : zv_X} : ∀ (n : Nat) (c : zv_C) (r : zv_R), zv_run X n c = some r → c.2.2.2.2.1.length ≤ r.2.1.length ∧ zsl c.2.2.2.2.1 ≤ zsl r.2.1
  | 0, _, _, h => by cases h
  | n + 1, c, r, h => by
    have h : zv_step X (zv_run X n) c = some r := h
    unfold zv_step at h
    split at h
    · rename_i b hb
      clear hb
      have key : ∀ (is : List zv_I) (ls : zv_L) (st : List Value) (μ : zv_M), zv_exe X c.1 (zv_run X n) is ls st μ = some r → μ.1.length ≤ r.2.1.length ∧ zsl μ.1 ≤ zsl r.2.1 := by
        intro is
        induction is with
        | nil => intro _ _ _ h9; cases h9
        | cons q is ih =>
          intro ls st μ h9
          exact zone_ge (zrun_ge n) (fun ls st μ h8 => ih ls st μ h8) (show zv_one X c.1 (zv_run X n) q ls st μ (fun ls st μ => zv_exe X c.1 (zv_run X n) is ls st μ) = some r from h9)
      exact key _ _ _ _ h
    · cases h
end ZFIX
