section ZPAR
variable {α : Type}
/-- an instruction's end doesn't hang on what goes on behind it -/
theorem zop_bind (X : zv_X) (i : Instr) (d : List Nat) (ls : zv_L) (st : List Value) (μ : zv_M) (k : zv_L → List Value → zv_M → Option α) : zv_op X i d ls st μ k = (zv_op X i d ls st μ (fun a b c => some (a, b, c))).bind (fun t => k t.1 t.2.1 t.2.2) := by
  unfold zv_op
  split
  all_goals (try rfl)
  all_goals (try unfold zv_ldc)
  all_goals (try unfold zv_ldi)
  all_goals (try unfold zv_ldl)
  all_goals (try unfold zv_lda)
  all_goals (try unfold zv_p1i)
  all_goals (try unfold zv_p2i)
  all_goals (try unfold zv_p1l)
  all_goals (try unfold zv_p2l)
  all_goals (try unfold zv_p1a)
  all_goals (try unfold zv_sto)
  all_goals (try unfold zv_sto2)
  all_goals (try unfold zv_get)
  all_goals (try unfold zv_put)
  all_goals (try unfold zv_ix)
  all_goals (try unfold zv_iq)
  all_goals (try unfold zv_ox)
  all_goals (try unfold zv_ob)
  all_goals (repeat' (first | rfl | split | dsimp only))
theorem zmks_ge (sh : (Nat × Nat) ⊕ Nat) : ∀ (n : Nat) (μ : zv_M), μ.1.length ≤ (zv_mks sh n μ).1.length ∧ zsl μ.1 ≤ zsl (zv_mks sh n μ).1
  | 0, μ => ⟨Nat.le_refl _, Nat.le_refl _⟩
  | n + 1, μ => by
    have h := zmks_ge sh n (zv_mk μ sh)
    rw [zmk_len, zmk_sl] at h
    show μ.1.length ≤ (zv_mks sh n (zv_mk μ sh)).1.length ∧ zsl μ.1 ≤ zsl (zv_mks sh n (zv_mk μ sh)).1
    omega
theorem zop_ge {X : zv_X} {i : Instr} {d : List Nat} {ls : zv_L} {st : List Value} {μ : zv_M} {t : zv_L × List Value × zv_M} (h : zv_op X i d ls st μ (fun a b c => some (a, b, c)) = some t) : μ.1.length ≤ t.2.2.1.length ∧ zsl μ.1 ≤ zsl t.2.2.1 := by
  unfold zv_op at h
  split at h
  all_goals (try unfold zv_ldc at h)
  all_goals (try unfold zv_ldi at h)
  all_goals (try unfold zv_ldl at h)
  all_goals (try unfold zv_lda at h)
  all_goals (try unfold zv_p1i at h)
  all_goals (try unfold zv_p2i at h)
  all_goals (try unfold zv_p1l at h)
  all_goals (try unfold zv_p2l at h)
  all_goals (try unfold zv_p1a at h)
  all_goals (try unfold zv_sto at h)
  all_goals (try unfold zv_sto2 at h)
  all_goals (try unfold zv_get at h)
  all_goals (try unfold zv_put at h)
  all_goals (try unfold zv_ix at h)
  all_goals (try unfold zv_iq at h)
  all_goals (try unfold zv_ox at h)
  all_goals (try unfold zv_ob at h)
  all_goals (repeat' (first | (cases h; done) | (cases h; exact ⟨Nat.le_refl _, Nat.le_refl _⟩) | (cases h; exact ⟨by show _ ≤ (zv_mk _ _).1.length; rw [zmk_len]; omega, by show _ ≤ zsl (zv_mk _ _).1; rw [zmk_sl]; omega⟩) | (cases h; exact ⟨Nat.le_trans (by show _ ≤ (zv_mk _ _).1.length; rw [zmk_len]; omega) (zmks_ge _ _ _).1, Nat.le_trans (by show _ ≤ zsl (zv_mk _ _).1; rw [zmk_sl]; omega) (zmks_ge _ _ _).2⟩) | split at h | dsimp only at h))
theorem zop_par {X : zv_X} {i : Instr} {d : List Nat} {ls : zv_L} {st : List Value} {μ : zv_M} {k : zv_L → List Value → zv_M → Option α} {y : α} (h : zv_op X i d ls st μ k = some y) : ∃ t : zv_L × List Value × zv_M, k t.1 t.2.1 t.2.2 = some y ∧ (∀ k' : zv_L → List Value → zv_M → Option α, zv_op X i d ls st μ k' = k' t.1 t.2.1 t.2.2) ∧ μ.1.length ≤ t.2.2.1.length ∧ zsl μ.1 ≤ zsl t.2.2.1 := by
  rw [zop_bind] at h
  cases hd : zv_op X i d ls st μ (fun a b c => some (a, b, c)) with
  | none => rw [hd] at h; cases h
  | some t =>
    rw [hd] at h
    exact ⟨t, h, fun k' => by rw [zop_bind, hd]; rfl, zop_ge hd⟩
end ZPAR
