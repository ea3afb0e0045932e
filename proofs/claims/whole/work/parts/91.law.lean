/-! THE LAW'S LOOP -/
def zEnds (r : Option zv_R) : Prop := ∃ (b : Bool) (I : zI) (J : zJ), r = some (some (.int 1), zM b I J)
def zLw (X : zv_X) (i : Nat) : Prop := ∀ (t : zST) (b : Bool) (I : zI) (J : zJ), zInv t I J → zEnds (zg_Law_law_18 X 0 0 181 (Int32.ofNat i) (zM b I J))
theorem zl4 {α : Type} {a : Option α} : (if (0 : Nat) = 90 then none else if (0 : Nat) < 4 then a else none) = a := rfl
theorem zl5 {α : Type} {a : Option α} : (if (0 : Nat) = 90 then none else if (0 : Nat) < 4 ∨ (50 ≤ (0 : Nat) ∧ (0 : Nat) < 57) then a else none) = a := rfl
theorem zn_add6 {i : Nat} : Int32.ofNat i + 6 = Int32.ofNat (i + 6) := zn_add i 6
theorem zl_cmp0 {y : Int64} : lg_cmp y y = 0 := by simp [lg_cmp]
section ZLAW
variable {X : zv_X} {i : Nat}
theorem zlox {α : Type} {j : Nat} {k : Int32 → Option α} (hj : j < X.1) (hX : X.1 ≤ 3072) : zv_ox X 0 (Int32.ofNat j) k = k (X.2 j) := by
  have e : (Int32.ofNat j).toNatClampNeg = j := Int32.toNatClampNeg_ofNat_of_lt (by omega)
  unfold zv_ox
  rw [e, if_neg]
  · rfl
  · rintro (q | q)
    · rw [zi_lt, zn_int (by omega)] at q
      have e0 : (0 : Int32).toInt = 0 := rfl
      omega
    · exact absurd (show X.1 ≤ j from q) (by omega)
theorem zlok {α : Type} {d : Nat} {c : Int32} {k : Int32 → Option α} (hc : c = Int32.ofNat d) (hj : i + d < X.1) (hX : X.1 ≤ 3072) : zv_ox X 0 (Int32.ofNat i + c) k = k (X.2 (i + d)) := by
  rw [hc, zn_add]; exact zlox hj hX

theorem zl_feed (hX : X.1 ≤ 3072) (hL : i + 6 ≤ X.1) (ih : zLw X (i + 6)) {t : zST} {b : Bool} {I : zI} {J : zJ} (hi : zInv t I J) : zEnds (zg_Law_law_172 X 0 0 181 (Int32.ofNat i) (zM b I J)) := by
  have x1 := fun (k : Int32 → Option zv_R) => zlok (X := X) (i := i) (d := 1) (c := 1) (k := k) rfl (by omega) hX
  have x2 := fun (k : Int32 → Option zv_R) => zlok (X := X) (i := i) (d := 2) (c := 2) (k := k) rfl (by omega) hX
  have x3 := fun (k : Int32 → Option zv_R) => zlok (X := X) (i := i) (d := 3) (c := 3) (k := k) rfl (by omega) hX
  have x4 := fun (k : Int32 → Option zv_R) => zlok (X := X) (i := i) (d := 4) (c := 4) (k := k) rfl (by omega) hX
  have x5 := fun (k : Int32 → Option zv_R) => zlok (X := X) (i := i) (d := 5) (c := 5) (k := k) rfl (by omega) hX
  obtain ⟨v, b1, I1, J1, I2, J2, t1, hv, h1, h2, h3⟩ := go_feed X (X.2 (i + 1)) (X.2 (i + 2)) (X.2 (i + 3)) (X.2 (i + 4)) (X.2 (i + 5)) t b I J hi
  obtain ⟨y, rfl⟩ : ∃ y : Int32, v = .int y := by
    rcases hv with h | h
    · first | exact h.2 | exact absurd h.1 (by decide)
    · first | exact h.2 | exact absurd h.1 (by decide)
  obtain ⟨b2, I3, J3, r⟩ := ih t1 b1 I2 J2 h3
  have h1' : zg_GP_feed_0 X 0 (X.2 (i + 1)) (X.2 (i + 2)) (X.2 (i + 3)) (X.2 (i + 4)) (X.2 (i + 5)) (zM b I J) = _ := h1
  have h2' : zg_M_feed_0 X 181 (X.2 (i + 1)) (X.2 (i + 2)) (X.2 (i + 3)) (X.2 (i + 4)) (X.2 (i + 5)) (zM b1 I1 J1) = _ := h2
  refine ⟨b2, I3, J3, ?_⟩
  rw [zg_Law_law_172_e, zl4, x1, zl4, x2, zl4, x3, zl4, x4, zl4, x5, zo0, h1', zci, zl4, x1, zl4, x2, zl4, x3, zl4, x4, zl4, x5, zo181, h2', zci, if_pos rfl, zg_Law_law_1120_e, zn_add6, r]
theorem zl_end (hX : X.1 ≤ 3072) (hL : i + 6 ≤ X.1) (ih : zLw X (i + 6)) {t : zST} {b : Bool} {I : zI} {J : zJ} (hi : zInv t I J) : zEnds (zg_Law_law_235 X 0 0 181 (Int32.ofNat i) (zM b I J)) := by
  have x1 := fun (k : Int32 → Option zv_R) => zlok (X := X) (i := i) (d := 1) (c := 1) (k := k) rfl (by omega) hX
  obtain ⟨v, b1, I1, J1, I2, J2, t1, hv, h1, h2, h3⟩ := go_end X (X.2 (i + 1)) t b I J hi
  obtain ⟨y, rfl⟩ : ∃ y : Int32, v = .int y := by
    rcases hv with h | h
    · first | exact h.2 | exact absurd h.1 (by decide)
    · first | exact h.2 | exact absurd h.1 (by decide)
  obtain ⟨b2, I3, J3, r⟩ := ih t1 b1 I2 J2 h3
  have h1' : zg_GP_end_0 X 0 (X.2 (i + 1)) (zM b I J) = _ := h1
  have h2' : zg_M_end_0 X 181 (X.2 (i + 1)) (zM b1 I1 J1) = _ := h2
  refine ⟨b2, I3, J3, ?_⟩
  rw [zg_Law_law_235_e, zl4, x1, zo0, h1', zci, zl4, x1, zo181, h2', zci, if_pos rfl, zg_Law_law_1120_e, zn_add6, r]
theorem zl_text (hX : X.1 ≤ 3072) (hL : i + 6 ≤ X.1) (ih : zLw X (i + 6)) {t : zST} {b : Bool} {I : zI} {J : zJ} (hi : zInv t I J) : zEnds (zg_Law_law_258 X 0 0 181 (Int32.ofNat i) (zM b I J)) := by
  obtain ⟨v, b1, I1, J1, I2, J2, t1, hv, h1, h2, h3⟩ := go_text X t b I J hi
  obtain ⟨y, rfl⟩ : ∃ y : Int32, v = .int y := by
    rcases hv with h | h
    · first | exact h.2 | exact absurd h.1 (by decide)
    · first | exact h.2 | exact absurd h.1 (by decide)
  obtain ⟨b2, I3, J3, r⟩ := ih t1 b1 I2 J2 h3
  have h1' : zg_GP_text_0 X 0 (zM b I J) = _ := h1
  have h2' : zg_M_text_0 X 181 (zM b1 I1 J1) = _ := h2
  refine ⟨b2, I3, J3, ?_⟩
  rw [zg_Law_law_258_e, zo0, h1', zci, zo181, h2', zci, if_pos rfl, zg_Law_law_1120_e, zn_add6, r]
theorem zl_fault (hX : X.1 ≤ 3072) (hL : i + 6 ≤ X.1) (ih : zLw X (i + 6)) {t : zST} {b : Bool} {I : zI} {J : zJ} (hi : zInv t I J) : zEnds (zg_Law_law_271 X 0 0 181 (Int32.ofNat i) (zM b I J)) := by
  have x1 := fun (k : Int32 → Option zv_R) => zlok (X := X) (i := i) (d := 1) (c := 1) (k := k) rfl (by omega) hX
  obtain ⟨v, b1, I1, J1, I2, J2, t1, hv, h1, h2, h3⟩ := go_fault X (X.2 (i + 1)) t b I J hi
  obtain ⟨y, rfl⟩ : ∃ y : Int32, v = .int y := by
    rcases hv with h | h
    · first | exact h.2 | exact absurd h.1 (by decide)
    · first | exact h.2 | exact absurd h.1 (by decide)
  obtain ⟨b2, I3, J3, r⟩ := ih t1 b1 I2 J2 h3
  have h1' : zg_GP_fault_0 X 0 (X.2 (i + 1)) (zM b I J) = _ := h1
  have h2' : zg_M_fault_0 X 181 (X.2 (i + 1)) (zM b1 I1 J1) = _ := h2
  refine ⟨b2, I3, J3, ?_⟩
  rw [zg_Law_law_271_e, zl4, x1, zo0, h1', zci, zl4, x1, zo181, h2', zci, if_pos rfl, zg_Law_law_1120_e, zn_add6, r]
theorem zl_set (hX : X.1 ≤ 3072) (hL : i + 6 ≤ X.1) (ih : zLw X (i + 6)) {t : zST} {b : Bool} {I : zI} {J : zJ} (hi : zInv t I J) : zEnds (zg_Law_law_294 X 0 0 181 (Int32.ofNat i) (zM b I J)) := by
  have x1 := fun (k : Int32 → Option zv_R) => zlok (X := X) (i := i) (d := 1) (c := 1) (k := k) rfl (by omega) hX
  have x2 := fun (k : Int32 → Option zv_R) => zlok (X := X) (i := i) (d := 2) (c := 2) (k := k) rfl (by omega) hX
  obtain ⟨v, b1, I1, J1, I2, J2, t1, hv, h1, h2, h3⟩ := go_set X (X.2 (i + 1)) (X.2 (i + 2)) t b I J hi
  obtain ⟨y, rfl⟩ : ∃ y : Int32, v = .int y := by
    rcases hv with h | h
    · first | exact h.2 | exact absurd h.1 (by decide)
    · first | exact h.2 | exact absurd h.1 (by decide)
  obtain ⟨b2, I3, J3, r⟩ := ih t1 b1 I2 J2 h3
  have h1' : zg_GP_set_0 X 0 (X.2 (i + 1)) (X.2 (i + 2)) (zM b I J) = _ := h1
  have h2' : zg_M_set_0 X 181 (X.2 (i + 1)) (X.2 (i + 2)) (zM b1 I1 J1) = _ := h2
  refine ⟨b2, I3, J3, ?_⟩
  rw [zg_Law_law_294_e, zl4, x1, zl4, x2, zo0, h1', zci, zl4, x1, zl4, x2, zo181, h2', zci, if_pos rfl, zg_Law_law_1120_e, zn_add6, r]
theorem zl_insert (hX : X.1 ≤ 3072) (hL : i + 6 ≤ X.1) (ih : zLw X (i + 6)) {t : zST} {b : Bool} {I : zI} {J : zJ} (hi : zInv t I J) : zEnds (zg_Law_law_327 X 0 0 181 (Int32.ofNat i) (zM b I J)) := by
  have x1 := fun (k : Int32 → Option zv_R) => zlok (X := X) (i := i) (d := 1) (c := 1) (k := k) rfl (by omega) hX
  obtain ⟨v, b1, I1, J1, I2, J2, t1, hv, h1, h2, h3⟩ := go_insert X (X.2 (i + 1)) t b I J hi
  obtain ⟨y, rfl⟩ : ∃ y : Int32, v = .int y := by
    rcases hv with h | h
    · first | exact h.2 | exact absurd h.1 (by decide)
    · first | exact h.2 | exact absurd h.1 (by decide)
  obtain ⟨b2, I3, J3, r⟩ := ih t1 b1 I2 J2 h3
  have h1' : zg_GP_insert_0 X 0 (X.2 (i + 1)) (zM b I J) = _ := h1
  have h2' : zg_M_insert_0 X 181 (X.2 (i + 1)) (zM b1 I1 J1) = _ := h2
  refine ⟨b2, I3, J3, ?_⟩
  rw [zg_Law_law_327_e, zl4, x1, zo0, h1', zci, zl4, x1, zo181, h2', zci, if_pos rfl, zg_Law_law_1120_e, zn_add6, r]
theorem zl_remove (hX : X.1 ≤ 3072) (hL : i + 6 ≤ X.1) (ih : zLw X (i + 6)) {t : zST} {b : Bool} {I : zI} {J : zJ} (hi : zInv t I J) : zEnds (zg_Law_law_350 X 0 0 181 (Int32.ofNat i) (zM b I J)) := by
  have x1 := fun (k : Int32 → Option zv_R) => zlok (X := X) (i := i) (d := 1) (c := 1) (k := k) rfl (by omega) hX
  obtain ⟨v, b1, I1, J1, I2, J2, t1, hv, h1, h2, h3⟩ := go_remove X (X.2 (i + 1)) t b I J hi
  obtain ⟨y, rfl⟩ : ∃ y : Int32, v = .int y := by
    rcases hv with h | h
    · first | exact h.2 | exact absurd h.1 (by decide)
    · first | exact h.2 | exact absurd h.1 (by decide)
  obtain ⟨b2, I3, J3, r⟩ := ih t1 b1 I2 J2 h3
  have h1' : zg_GP_remove_0 X 0 (X.2 (i + 1)) (zM b I J) = _ := h1
  have h2' : zg_M_remove_0 X 181 (X.2 (i + 1)) (zM b1 I1 J1) = _ := h2
  refine ⟨b2, I3, J3, ?_⟩
  rw [zg_Law_law_350_e, zl4, x1, zo0, h1', zci, zl4, x1, zo181, h2', zci, if_pos rfl, zg_Law_law_1120_e, zn_add6, r]
theorem zl_undo (hX : X.1 ≤ 3072) (hL : i + 6 ≤ X.1) (ih : zLw X (i + 6)) {t : zST} {b : Bool} {I : zI} {J : zJ} (hi : zInv t I J) : zEnds (zg_Law_law_373 X 0 0 181 (Int32.ofNat i) (zM b I J)) := by
  have x1 := fun (k : Int32 → Option zv_R) => zlok (X := X) (i := i) (d := 1) (c := 1) (k := k) rfl (by omega) hX
  by_cases c : X.2 (i + 1) = 0
  · obtain ⟨v, b1, I1, J1, I2, J2, t1, hv, h1, h2, h3⟩ := go_undo X 0 t b I J hi
    obtain ⟨y, rfl⟩ : ∃ y : Int32, v = .int y := by
      rcases hv with h | h
      · first | exact h.2 | exact absurd h.1 (by decide)
      · first | exact h.2 | exact absurd h.1 (by decide)
    obtain ⟨b2, I3, J3, r⟩ := ih t1 b1 I2 J2 h3
    have h1' : zg_GP_undo_0 X 0 0 (zM b I J) = _ := h1
    have h2' : zg_M_undo_0 X 181 0 (zM b1 I1 J1) = _ := h2
    refine ⟨b2, I3, J3, ?_⟩
    rw [zg_Law_law_373_e, zl4, x1, if_pos c, zg_Law_law_386_e, zg_Law_law_387_e, zo0, h1', zci, zl4, x1, if_pos c, zg_Law_law_403_e, zg_Law_law_404_e, zo181, h2', zci, if_pos rfl, zg_Law_law_1120_e, zn_add6, r]
  · obtain ⟨v, b1, I1, J1, I2, J2, t1, hv, h1, h2, h3⟩ := go_undo X 1 t b I J hi
    obtain ⟨y, rfl⟩ : ∃ y : Int32, v = .int y := by
      rcases hv with h | h
      · first | exact h.2 | exact absurd h.1 (by decide)
      · first | exact h.2 | exact absurd h.1 (by decide)
    obtain ⟨b2, I3, J3, r⟩ := ih t1 b1 I2 J2 h3
    have h1' : zg_GP_undo_0 X 0 1 (zM b I J) = _ := h1
    have h2' : zg_M_undo_0 X 181 1 (zM b1 I1 J1) = _ := h2
    refine ⟨b2, I3, J3, ?_⟩
    rw [zg_Law_law_373_e, zl4, x1, if_neg c, zg_Law_law_387_e, zo0, h1', zci, zl4, x1, if_neg c, zg_Law_law_404_e, zo181, h2', zci, if_pos rfl, zg_Law_law_1120_e, zn_add6, r]
theorem zl_build (hX : X.1 ≤ 3072) (hL : i + 6 ≤ X.1) (ih : zLw X (i + 6)) {t : zST} {b : Bool} {I : zI} {J : zJ} (hi : zInv t I J) : zEnds (zg_Law_law_412 X 0 0 181 (Int32.ofNat i) (zM b I J)) := by
  obtain ⟨v, b1, I1, J1, I2, J2, t1, hv, h1, h2, h3⟩ := go_build X t b I J hi
  obtain ⟨y, rfl⟩ : ∃ y : Int32, v = .int y := by
    rcases hv with h | h
    · first | exact h.2 | exact absurd h.1 (by decide)
    · first | exact h.2 | exact absurd h.1 (by decide)
  obtain ⟨b2, I3, J3, r⟩ := ih t1 b1 I2 J2 h3
  have h1' : zg_GP_build_0 X 0 (zM b I J) = _ := h1
  have h2' : zg_M_build_0 X 181 (zM b1 I1 J1) = _ := h2
  refine ⟨b2, I3, J3, ?_⟩
  rw [zg_Law_law_412_e, zo0, h1', zci, zo181, h2', zci, if_pos rfl, zg_Law_law_1120_e, zn_add6, r]
theorem zl_count (hX : X.1 ≤ 3072) (hL : i + 6 ≤ X.1) (ih : zLw X (i + 6)) {t : zST} {b : Bool} {I : zI} {J : zJ} (hi : zInv t I J) : zEnds (zg_Law_law_425 X 0 0 181 (Int32.ofNat i) (zM b I J)) := by
  have x1 := fun (k : Int32 → Option zv_R) => zlok (X := X) (i := i) (d := 1) (c := 1) (k := k) rfl (by omega) hX
  obtain ⟨v, b1, I1, J1, I2, J2, t1, hv, h1, h2, h3⟩ := go_count X (X.2 (i + 1)) t b I J hi
  obtain ⟨y, rfl⟩ : ∃ y : Int32, v = .int y := by
    rcases hv with h | h
    · first | exact h.2 | exact absurd h.1 (by decide)
    · first | exact h.2 | exact absurd h.1 (by decide)
  obtain ⟨b2, I3, J3, r⟩ := ih t1 b1 I2 J2 h3
  have h1' : zg_GP_count_0 X 0 (X.2 (i + 1)) (zM b I J) = _ := h1
  have h2' : zg_M_count_0 X 181 (X.2 (i + 1)) (zM b1 I1 J1) = _ := h2
  refine ⟨b2, I3, J3, ?_⟩
  rw [zg_Law_law_425_e, zl4, x1, zo0, h1', zci, zl4, x1, zo181, h2', zci, if_pos rfl, zg_Law_law_1120_e, zn_add6, r]
theorem zl_key (hX : X.1 ≤ 3072) (hL : i + 6 ≤ X.1) (ih : zLw X (i + 6)) {t : zST} {b : Bool} {I : zI} {J : zJ} (hi : zInv t I J) : zEnds (zg_Law_law_448 X 0 0 181 (Int32.ofNat i) (zM b I J)) := by
  have x1 := fun (k : Int32 → Option zv_R) => zlok (X := X) (i := i) (d := 1) (c := 1) (k := k) rfl (by omega) hX
  obtain ⟨v, b1, I1, J1, I2, J2, t1, hv, h1, h2, h3⟩ := go_key X (X.2 (i + 1)) t b I J hi
  obtain ⟨y, rfl⟩ : ∃ y : Int32, v = .int y := by
    rcases hv with h | h
    · first | exact h.2 | exact absurd h.1 (by decide)
    · first | exact h.2 | exact absurd h.1 (by decide)
  obtain ⟨b2, I3, J3, r⟩ := ih t1 b1 I2 J2 h3
  have h1' : zg_GP_key_0 X 0 (X.2 (i + 1)) (zM b I J) = _ := h1
  have h2' : zg_M_key_0 X 181 (X.2 (i + 1)) (zM b1 I1 J1) = _ := h2
  refine ⟨b2, I3, J3, ?_⟩
  rw [zg_Law_law_448_e, zl4, x1, zo0, h1', zci, zl4, x1, zo181, h2', zci, if_pos rfl, zg_Law_law_1120_e, zn_add6, r]
theorem zl_rank (hX : X.1 ≤ 3072) (hL : i + 6 ≤ X.1) (ih : zLw X (i + 6)) {t : zST} {b : Bool} {I : zI} {J : zJ} (hi : zInv t I J) : zEnds (zg_Law_law_471 X 0 0 181 (Int32.ofNat i) (zM b I J)) := by
  have x1 := fun (k : Int32 → Option zv_R) => zlok (X := X) (i := i) (d := 1) (c := 1) (k := k) rfl (by omega) hX
  obtain ⟨v, b1, I1, J1, I2, J2, t1, hv, h1, h2, h3⟩ := go_rank X (X.2 (i + 1)) t b I J hi
  obtain ⟨y, rfl⟩ : ∃ y : Int32, v = .int y := by
    rcases hv with h | h
    · first | exact h.2 | exact absurd h.1 (by decide)
    · first | exact h.2 | exact absurd h.1 (by decide)
  obtain ⟨b2, I3, J3, r⟩ := ih t1 b1 I2 J2 h3
  have h1' : zg_GP_rank_0 X 0 (X.2 (i + 1)) (zM b I J) = _ := h1
  have h2' : zg_M_rank_0 X 181 (X.2 (i + 1)) (zM b1 I1 J1) = _ := h2
  refine ⟨b2, I3, J3, ?_⟩
  rw [zg_Law_law_471_e, zl4, x1, zo0, h1', zci, zl4, x1, zo181, h2', zci, if_pos rfl, zg_Law_law_1120_e, zn_add6, r]
theorem zl_range (hX : X.1 ≤ 3072) (hL : i + 6 ≤ X.1) (ih : zLw X (i + 6)) {t : zST} {b : Bool} {I : zI} {J : zJ} (hi : zInv t I J) : zEnds (zg_Law_law_494 X 0 0 181 (Int32.ofNat i) (zM b I J)) := by
  have x1 := fun (k : Int32 → Option zv_R) => zlok (X := X) (i := i) (d := 1) (c := 1) (k := k) rfl (by omega) hX
  have x2 := fun (k : Int32 → Option zv_R) => zlok (X := X) (i := i) (d := 2) (c := 2) (k := k) rfl (by omega) hX
  have x3 := fun (k : Int32 → Option zv_R) => zlok (X := X) (i := i) (d := 3) (c := 3) (k := k) rfl (by omega) hX
  obtain ⟨v, b1, I1, J1, I2, J2, t1, hv, h1, h2, h3⟩ := go_range X (X.2 (i + 1)) (X.2 (i + 2)) (X.2 (i + 3)) t b I J hi
  obtain ⟨y, rfl⟩ : ∃ y : Int64, v = .long y := by
    rcases hv with h | h
    · first | exact h.2 | exact absurd h.1 (by decide)
    · first | exact h.2 | exact absurd h.1 (by decide)
  obtain ⟨b2, I3, J3, r⟩ := ih t1 b1 I2 J2 h3
  have h1' : zg_GP_range_0 X 0 (X.2 (i + 1)) (X.2 (i + 2)) (X.2 (i + 3)) (zM b I J) = _ := h1
  have h2' : zg_M_range_0 X 181 (X.2 (i + 1)) (X.2 (i + 2)) (X.2 (i + 3)) (zM b1 I1 J1) = _ := h2
  refine ⟨b2, I3, J3, ?_⟩
  rw [zg_Law_law_494_e, zl4, x1, zl4, x2, zl4, x3, zo0, h1', zcl, zl4, x1, zl4, x2, zl4, x3, zo181, h2', zcl, if_pos (zl_cmp0), zg_Law_law_1120_e, zn_add6, r]
theorem zl_piece (hX : X.1 ≤ 3072) (hL : i + 6 ≤ X.1) (ih : zLw X (i + 6)) {t : zST} {b : Bool} {I : zI} {J : zJ} (hi : zInv t I J) : zEnds (zg_Law_law_538 X 0 0 181 (Int32.ofNat i) (zM b I J)) := by
  have x1 := fun (k : Int32 → Option zv_R) => zlok (X := X) (i := i) (d := 1) (c := 1) (k := k) rfl (by omega) hX
  have x2 := fun (k : Int32 → Option zv_R) => zlok (X := X) (i := i) (d := 2) (c := 2) (k := k) rfl (by omega) hX
  have x3 := fun (k : Int32 → Option zv_R) => zlok (X := X) (i := i) (d := 3) (c := 3) (k := k) rfl (by omega) hX
  obtain ⟨v, b1, I1, J1, I2, J2, t1, hv, h1, h2, h3⟩ := go_piece X (X.2 (i + 1)) (X.2 (i + 2)) (X.2 (i + 3)) t b I J hi
  obtain ⟨y, rfl⟩ : ∃ y : Int32, v = .int y := by
    rcases hv with h | h
    · first | exact h.2 | exact absurd h.1 (by decide)
    · first | exact h.2 | exact absurd h.1 (by decide)
  obtain ⟨b2, I3, J3, r⟩ := ih t1 b1 I2 J2 h3
  have h1' : zg_GP_piece_0 X 0 (X.2 (i + 1)) (X.2 (i + 2)) (X.2 (i + 3)) (zM b I J) = _ := h1
  have h2' : zg_M_piece_0 X 181 (X.2 (i + 1)) (X.2 (i + 2)) (X.2 (i + 3)) (zM b1 I1 J1) = _ := h2
  refine ⟨b2, I3, J3, ?_⟩
  rw [zg_Law_law_538_e, zl4, x1, zl4, x2, zl4, x3, zo0, h1', zci, zl4, x1, zl4, x2, zl4, x3, zo181, h2', zci, if_pos rfl, zg_Law_law_1120_e, zn_add6, r]
theorem zl_guess (hX : X.1 ≤ 3072) (hL : i + 6 ≤ X.1) (ih : zLw X (i + 6)) {t : zST} {b : Bool} {I : zI} {J : zJ} (hi : zInv t I J) : zEnds (zg_Law_law_581 X 0 0 181 (Int32.ofNat i) (zM b I J)) := by
  have x1 := fun (k : Int32 → Option zv_R) => zlok (X := X) (i := i) (d := 1) (c := 1) (k := k) rfl (by omega) hX
  have x2 := fun (k : Int32 → Option zv_R) => zlok (X := X) (i := i) (d := 2) (c := 2) (k := k) rfl (by omega) hX
  have x3 := fun (k : Int32 → Option zv_R) => zlok (X := X) (i := i) (d := 3) (c := 3) (k := k) rfl (by omega) hX
  obtain ⟨v, b1, I1, J1, I2, J2, t1, hv, h1, h2, h3⟩ := go_guess X (X.2 (i + 1)) (X.2 (i + 2)) (X.2 (i + 3)) t b I J hi
  obtain ⟨y, rfl⟩ : ∃ y : Int32, v = .int y := by
    rcases hv with h | h
    · first | exact h.2 | exact absurd h.1 (by decide)
    · first | exact h.2 | exact absurd h.1 (by decide)
  obtain ⟨b2, I3, J3, r⟩ := ih t1 b1 I2 J2 h3
  have h1' : zg_GP_guess_0 X 0 (X.2 (i + 1)) (X.2 (i + 2)) (X.2 (i + 3)) (zM b I J) = _ := h1
  have h2' : zg_M_guess_0 X 181 (X.2 (i + 1)) (X.2 (i + 2)) (X.2 (i + 3)) (zM b1 I1 J1) = _ := h2
  refine ⟨b2, I3, J3, ?_⟩
  rw [zg_Law_law_581_e, zl4, x1, zl4, x2, zl4, x3, zo0, h1', zci, zl4, x1, zl4, x2, zl4, x3, zo181, h2', zci, if_pos rfl, zg_Law_law_1120_e, zn_add6, r]
theorem zl_seek (hX : X.1 ≤ 3072) (hL : i + 6 ≤ X.1) (ih : zLw X (i + 6)) {t : zST} {b : Bool} {I : zI} {J : zJ} (hi : zInv t I J) : zEnds (zg_Law_law_624 X 0 0 181 (Int32.ofNat i) (zM b I J)) := by
  have x1 := fun (k : Int32 → Option zv_R) => zlok (X := X) (i := i) (d := 1) (c := 1) (k := k) rfl (by omega) hX
  have x2 := fun (k : Int32 → Option zv_R) => zlok (X := X) (i := i) (d := 2) (c := 2) (k := k) rfl (by omega) hX
  obtain ⟨v, b1, I1, J1, I2, J2, t1, hv, h1, h2, h3⟩ := go_seek X (X.2 (i + 1)) (X.2 (i + 2)) t b I J hi
  obtain ⟨y, rfl⟩ : ∃ y : Int32, v = .int y := by
    rcases hv with h | h
    · first | exact h.2 | exact absurd h.1 (by decide)
    · first | exact h.2 | exact absurd h.1 (by decide)
  obtain ⟨b2, I3, J3, r⟩ := ih t1 b1 I2 J2 h3
  have h1' : zg_GP_seek_0 X 0 (X.2 (i + 1)) (X.2 (i + 2)) (zM b I J) = _ := h1
  have h2' : zg_M_seek_0 X 181 (X.2 (i + 1)) (X.2 (i + 2)) (zM b1 I1 J1) = _ := h2
  refine ⟨b2, I3, J3, ?_⟩
  rw [zg_Law_law_624_e, zl4, x1, zl4, x2, zo0, h1', zci, zl4, x1, zl4, x2, zo181, h2', zci, if_pos rfl, zg_Law_law_1120_e, zn_add6, r]
theorem zl_pages (hX : X.1 ≤ 3072) (hL : i + 6 ≤ X.1) (ih : zLw X (i + 6)) {t : zST} {b : Bool} {I : zI} {J : zJ} (hi : zInv t I J) : zEnds (zg_Law_law_657 X 0 0 181 (Int32.ofNat i) (zM b I J)) := by
  have x1 := fun (k : Int32 → Option zv_R) => zlok (X := X) (i := i) (d := 1) (c := 1) (k := k) rfl (by omega) hX
  obtain ⟨v, b1, I1, J1, I2, J2, t1, hv, h1, h2, h3⟩ := go_pages X (X.2 (i + 1)) t b I J hi
  obtain ⟨y, rfl⟩ : ∃ y : Int32, v = .int y := by
    rcases hv with h | h
    · first | exact h.2 | exact absurd h.1 (by decide)
    · first | exact h.2 | exact absurd h.1 (by decide)
  obtain ⟨b2, I3, J3, r⟩ := ih t1 b1 I2 J2 h3
  have h1' : zg_GP_pages_0 X 0 (X.2 (i + 1)) (zM b I J) = _ := h1
  have h2' : zg_M_pages_0 X 181 (X.2 (i + 1)) (zM b1 I1 J1) = _ := h2
  refine ⟨b2, I3, J3, ?_⟩
  rw [zg_Law_law_657_e, zl4, x1, zo0, h1', zci, zl4, x1, zo181, h2', zci, if_pos rfl, zg_Law_law_1120_e, zn_add6, r]
theorem zl_errors (hX : X.1 ≤ 3072) (hL : i + 6 ≤ X.1) (ih : zLw X (i + 6)) {t : zST} {b : Bool} {I : zI} {J : zJ} (hi : zInv t I J) : zEnds (zg_Law_law_680 X 0 0 181 (Int32.ofNat i) (zM b I J)) := by
  have x1 := fun (k : Int32 → Option zv_R) => zlok (X := X) (i := i) (d := 1) (c := 1) (k := k) rfl (by omega) hX
  have x2 := fun (k : Int32 → Option zv_R) => zlok (X := X) (i := i) (d := 2) (c := 2) (k := k) rfl (by omega) hX
  obtain ⟨v, b1, I1, J1, I2, J2, t1, hv, h1, h2, h3⟩ := go_errors X (X.2 (i + 1)) (X.2 (i + 2)) t b I J hi
  obtain ⟨y, rfl⟩ : ∃ y : Int32, v = .int y := by
    rcases hv with h | h
    · first | exact h.2 | exact absurd h.1 (by decide)
    · first | exact h.2 | exact absurd h.1 (by decide)
  obtain ⟨b2, I3, J3, r⟩ := ih t1 b1 I2 J2 h3
  have h1' : zg_GP_errors_0 X 0 (X.2 (i + 1)) (X.2 (i + 2)) (zM b I J) = _ := h1
  have h2' : zg_M_errors_0 X 181 (X.2 (i + 1)) (X.2 (i + 2)) (zM b1 I1 J1) = _ := h2
  refine ⟨b2, I3, J3, ?_⟩
  rw [zg_Law_law_680_e, zl4, x1, zl4, x2, zo0, h1', zci, zl4, x1, zl4, x2, zo181, h2', zci, if_pos rfl, zg_Law_law_1120_e, zn_add6, r]
theorem zl_bestSlack (hX : X.1 ≤ 3072) (hL : i + 6 ≤ X.1) (ih : zLw X (i + 6)) {t : zST} {b : Bool} {I : zI} {J : zJ} (hi : zInv t I J) : zEnds (zg_Law_law_713 X 0 0 181 (Int32.ofNat i) (zM b I J)) := by
  have x1 := fun (k : Int32 → Option zv_R) => zlok (X := X) (i := i) (d := 1) (c := 1) (k := k) rfl (by omega) hX
  obtain ⟨v, b1, I1, J1, I2, J2, t1, hv, h1, h2, h3⟩ := go_bestSlack X (X.2 (i + 1)) t b I J hi
  obtain ⟨y, rfl⟩ : ∃ y : Int32, v = .int y := by
    rcases hv with h | h
    · first | exact h.2 | exact absurd h.1 (by decide)
    · first | exact h.2 | exact absurd h.1 (by decide)
  obtain ⟨b2, I3, J3, r⟩ := ih t1 b1 I2 J2 h3
  have h1' : zg_GP_bestSlack_0 X 0 (X.2 (i + 1)) (zM b I J) = _ := h1
  have h2' : zg_M_bestSlack_0 X 181 (X.2 (i + 1)) (zM b1 I1 J1) = _ := h2
  refine ⟨b2, I3, J3, ?_⟩
  rw [zg_Law_law_713_e, zl4, x1, zo0, h1', zci, zl4, x1, zo181, h2', zci, if_pos rfl, zg_Law_law_1120_e, zn_add6, r]
theorem zl_lay (hX : X.1 ≤ 3072) (hL : i + 6 ≤ X.1) (ih : zLw X (i + 6)) {t : zST} {b : Bool} {I : zI} {J : zJ} (hi : zInv t I J) : zEnds (zg_Law_law_736 X 0 0 181 (Int32.ofNat i) (zM b I J)) := by
  obtain ⟨v, b1, I1, J1, I2, J2, t1, hv, h1, h2, h3⟩ := go_lay X t b I J hi
  obtain ⟨y, rfl⟩ : ∃ y : Int32, v = .int y := by
    rcases hv with h | h
    · first | exact h.2 | exact absurd h.1 (by decide)
    · first | exact h.2 | exact absurd h.1 (by decide)
  obtain ⟨b2, I3, J3, r⟩ := ih t1 b1 I2 J2 h3
  have h1' : zg_GP_lay_0 X 0 (zM b I J) = _ := h1
  have h2' : zg_M_lay_0 X 181 (zM b1 I1 J1) = _ := h2
  refine ⟨b2, I3, J3, ?_⟩
  rw [zg_Law_law_736_e, zo0, h1', zci, zo181, h2', zci, if_pos rfl, zg_Law_law_1120_e, zn_add6, r]
theorem zl_put (hX : X.1 ≤ 3072) (hL : i + 6 ≤ X.1) (ih : zLw X (i + 6)) {t : zST} {b : Bool} {I : zI} {J : zJ} (hi : zInv t I J) : zEnds (zg_Law_law_749 X 0 0 181 (Int32.ofNat i) (zM b I J)) := by
  have x1 := fun (k : Int32 → Option zv_R) => zlok (X := X) (i := i) (d := 1) (c := 1) (k := k) rfl (by omega) hX
  obtain ⟨v, b1, I1, J1, I2, J2, t1, hv, h1, h2, h3⟩ := go_put X (X.2 (i + 1)) t b I J hi
  obtain ⟨y, rfl⟩ : ∃ y : Int32, v = .int y := by
    rcases hv with h | h
    · first | exact h.2 | exact absurd h.1 (by decide)
    · first | exact h.2 | exact absurd h.1 (by decide)
  obtain ⟨b2, I3, J3, r⟩ := ih t1 b1 I2 J2 h3
  have h1' : zg_GP_put_0 X 0 (X.2 (i + 1)) (zM b I J) = _ := h1
  have h2' : zg_M_put_0 X 181 (X.2 (i + 1)) (zM b1 I1 J1) = _ := h2
  refine ⟨b2, I3, J3, ?_⟩
  rw [zg_Law_law_749_e, zl4, x1, zo0, h1', zci, zl4, x1, zo181, h2', zci, if_pos rfl, zg_Law_law_1120_e, zn_add6, r]
theorem zl_cell (hX : X.1 ≤ 3072) (hL : i + 6 ≤ X.1) (ih : zLw X (i + 6)) {t : zST} {b : Bool} {I : zI} {J : zJ} (hi : zInv t I J) : zEnds (zg_Law_law_772 X 0 0 181 (Int32.ofNat i) (zM b I J)) := by
  have x1 := fun (k : Int32 → Option zv_R) => zlok (X := X) (i := i) (d := 1) (c := 1) (k := k) rfl (by omega) hX
  obtain ⟨v, b1, I1, J1, I2, J2, t1, hv, h1, h2, h3⟩ := go_cell X (X.2 (i + 1)) t b I J hi
  obtain ⟨y, rfl⟩ : ∃ y : Int32, v = .int y := by
    rcases hv with h | h
    · first | exact h.2 | exact absurd h.1 (by decide)
    · first | exact h.2 | exact absurd h.1 (by decide)
  obtain ⟨b2, I3, J3, r⟩ := ih t1 b1 I2 J2 h3
  have h1' : zg_GP_cell_0 X 0 (X.2 (i + 1)) (zM b I J) = _ := h1
  have h2' : zg_M_cell_0 X 181 (X.2 (i + 1)) (zM b1 I1 J1) = _ := h2
  refine ⟨b2, I3, J3, ?_⟩
  rw [zg_Law_law_772_e, zl4, x1, zo0, h1', zci, zl4, x1, zo181, h2', zci, if_pos rfl, zg_Law_law_1120_e, zn_add6, r]
theorem zl_poison (hX : X.1 ≤ 3072) (hL : i + 6 ≤ X.1) (ih : zLw X (i + 6)) {t : zST} {b : Bool} {I : zI} {J : zJ} (hi : zInv t I J) : zEnds (zg_Law_law_795 X 0 0 181 (Int32.ofNat i) (zM b I J)) := by
  have x1 := fun (k : Int32 → Option zv_R) => zlok (X := X) (i := i) (d := 1) (c := 1) (k := k) rfl (by omega) hX
  obtain ⟨v, b1, I1, J1, I2, J2, t1, hv, h1, h2, h3⟩ := go_poison X (X.2 (i + 1)) t b I J hi
  obtain ⟨y, rfl⟩ : ∃ y : Int32, v = .int y := by
    rcases hv with h | h
    · first | exact h.2 | exact absurd h.1 (by decide)
    · first | exact h.2 | exact absurd h.1 (by decide)
  obtain ⟨b2, I3, J3, r⟩ := ih t1 b1 I2 J2 h3
  have h1' : zg_GP_poison_0 X 0 (X.2 (i + 1)) (zM b I J) = _ := h1
  have h2' : zg_M_poison_0 X 181 (X.2 (i + 1)) (zM b1 I1 J1) = _ := h2
  refine ⟨b2, I3, J3, ?_⟩
  rw [zg_Law_law_795_e, zl4, x1, zo0, h1', zci, zl4, x1, zo181, h2', zci, if_pos rfl, zg_Law_law_1120_e, zn_add6, r]
theorem zl_passes (hX : X.1 ≤ 3072) (hL : i + 6 ≤ X.1) (ih : zLw X (i + 6)) {t : zST} {b : Bool} {I : zI} {J : zJ} (hi : zInv t I J) : zEnds (zg_Law_law_818 X 0 0 181 (Int32.ofNat i) (zM b I J)) := by
  have x1 := fun (k : Int32 → Option zv_R) => zlok (X := X) (i := i) (d := 1) (c := 1) (k := k) rfl (by omega) hX
  have x2 := fun (k : Int32 → Option zv_R) => zlok (X := X) (i := i) (d := 2) (c := 2) (k := k) rfl (by omega) hX
  by_cases c : X.2 (i + 2) = 0
  · obtain ⟨v, b1, I1, J1, I2, J2, t1, hv, h1, h2, h3⟩ := go_passes X (X.2 (i + 1)) 0 t b I J hi
    obtain ⟨y, rfl⟩ : ∃ y : Int32, v = .int y := by
      rcases hv with h | h
      · first | exact h.2 | exact absurd h.1 (by decide)
      · first | exact h.2 | exact absurd h.1 (by decide)
    obtain ⟨b2, I3, J3, r⟩ := ih t1 b1 I2 J2 h3
    have h1' : zg_GP_passes_0 X 0 (X.2 (i + 1)) 0 (zM b I J) = _ := h1
    have h2' : zg_M_passes_0 X 181 (X.2 (i + 1)) 0 (zM b1 I1 J1) = _ := h2
    refine ⟨b2, I3, J3, ?_⟩
    rw [zg_Law_law_818_e, zl4, x1, zl4, x2, if_pos c, zg_Law_law_836_e, zg_Law_law_837_e, zo0, h1', zci, zl4, x1, zl4, x2, if_pos c, zg_Law_law_858_e, zg_Law_law_859_e, zo181, h2', zci, if_pos rfl, zg_Law_law_1120_e, zn_add6, r]
  · obtain ⟨v, b1, I1, J1, I2, J2, t1, hv, h1, h2, h3⟩ := go_passes X (X.2 (i + 1)) 1 t b I J hi
    obtain ⟨y, rfl⟩ : ∃ y : Int32, v = .int y := by
      rcases hv with h | h
      · first | exact h.2 | exact absurd h.1 (by decide)
      · first | exact h.2 | exact absurd h.1 (by decide)
    obtain ⟨b2, I3, J3, r⟩ := ih t1 b1 I2 J2 h3
    have h1' : zg_GP_passes_0 X 0 (X.2 (i + 1)) 1 (zM b I J) = _ := h1
    have h2' : zg_M_passes_0 X 181 (X.2 (i + 1)) 1 (zM b1 I1 J1) = _ := h2
    refine ⟨b2, I3, J3, ?_⟩
    rw [zg_Law_law_818_e, zl4, x1, zl4, x2, if_neg c, zg_Law_law_837_e, zo0, h1', zci, zl4, x1, zl4, x2, if_neg c, zg_Law_law_859_e, zo181, h2', zci, if_pos rfl, zg_Law_law_1120_e, zn_add6, r]
theorem zl_falses (hX : X.1 ≤ 3072) (hL : i + 6 ≤ X.1) (ih : zLw X (i + 6)) {t : zST} {b : Bool} {I : zI} {J : zJ} (hi : zInv t I J) : zEnds (zg_Law_law_867 X 0 0 181 (Int32.ofNat i) (zM b I J)) := by
  have x1 := fun (k : Int32 → Option zv_R) => zlok (X := X) (i := i) (d := 1) (c := 1) (k := k) rfl (by omega) hX
  have x2 := fun (k : Int32 → Option zv_R) => zlok (X := X) (i := i) (d := 2) (c := 2) (k := k) rfl (by omega) hX
  have x3 := fun (k : Int32 → Option zv_R) => zlok (X := X) (i := i) (d := 3) (c := 3) (k := k) rfl (by omega) hX
  by_cases c : X.2 (i + 3) = 0
  · obtain ⟨v, b1, I1, J1, I2, J2, t1, hv, h1, h2, h3⟩ := go_falses X (X.2 (i + 1)) (X.2 (i + 2)) 0 t b I J hi
    obtain ⟨y, rfl⟩ : ∃ y : Int32, v = .int y := by
      rcases hv with h | h
      · first | exact h.2 | exact absurd h.1 (by decide)
      · first | exact h.2 | exact absurd h.1 (by decide)
    obtain ⟨b2, I3, J3, r⟩ := ih t1 b1 I2 J2 h3
    have h1' : zg_GP_falses_0 X 0 (X.2 (i + 1)) (X.2 (i + 2)) 0 (zM b I J) = _ := h1
    have h2' : zg_M_falses_0 X 181 (X.2 (i + 1)) (X.2 (i + 2)) 0 (zM b1 I1 J1) = _ := h2
    refine ⟨b2, I3, J3, ?_⟩
    rw [zg_Law_law_867_e, zl4, x1, zl4, x2, zl4, x3, if_pos c, zg_Law_law_890_e, zg_Law_law_891_e, zo0, h1', zci, zl4, x1, zl4, x2, zl4, x3, if_pos c, zg_Law_law_917_e, zg_Law_law_918_e, zo181, h2', zci, if_pos rfl, zg_Law_law_1120_e, zn_add6, r]
  · obtain ⟨v, b1, I1, J1, I2, J2, t1, hv, h1, h2, h3⟩ := go_falses X (X.2 (i + 1)) (X.2 (i + 2)) 1 t b I J hi
    obtain ⟨y, rfl⟩ : ∃ y : Int32, v = .int y := by
      rcases hv with h | h
      · first | exact h.2 | exact absurd h.1 (by decide)
      · first | exact h.2 | exact absurd h.1 (by decide)
    obtain ⟨b2, I3, J3, r⟩ := ih t1 b1 I2 J2 h3
    have h1' : zg_GP_falses_0 X 0 (X.2 (i + 1)) (X.2 (i + 2)) 1 (zM b I J) = _ := h1
    have h2' : zg_M_falses_0 X 181 (X.2 (i + 1)) (X.2 (i + 2)) 1 (zM b1 I1 J1) = _ := h2
    refine ⟨b2, I3, J3, ?_⟩
    rw [zg_Law_law_867_e, zl4, x1, zl4, x2, zl4, x3, if_neg c, zg_Law_law_891_e, zo0, h1', zci, zl4, x1, zl4, x2, zl4, x3, if_neg c, zg_Law_law_918_e, zo181, h2', zci, if_pos rfl, zg_Law_law_1120_e, zn_add6, r]
theorem zl_point (hX : X.1 ≤ 3072) (hL : i + 6 ≤ X.1) (ih : zLw X (i + 6)) {t : zST} {b : Bool} {I : zI} {J : zJ} (hi : zInv t I J) : zEnds (zg_Law_law_926 X 0 0 181 (Int32.ofNat i) (zM b I J)) := by
  have x1 := fun (k : Int32 → Option zv_R) => zlok (X := X) (i := i) (d := 1) (c := 1) (k := k) rfl (by omega) hX
  have x2 := fun (k : Int32 → Option zv_R) => zlok (X := X) (i := i) (d := 2) (c := 2) (k := k) rfl (by omega) hX
  obtain ⟨v, b1, I1, J1, I2, J2, t1, hv, h1, h2, h3⟩ := go_point X (X.2 (i + 1)) (X.2 (i + 2)) t b I J hi
  obtain ⟨y, rfl⟩ : ∃ y : Int32, v = .int y := by
    rcases hv with h | h
    · first | exact h.2 | exact absurd h.1 (by decide)
    · first | exact h.2 | exact absurd h.1 (by decide)
  obtain ⟨b2, I3, J3, r⟩ := ih t1 b1 I2 J2 h3
  have h1' : zg_GP_point_0 X 0 (X.2 (i + 1)) (X.2 (i + 2)) (zM b I J) = _ := h1
  have h2' : zg_M_point_0 X 181 (X.2 (i + 1)) (X.2 (i + 2)) (zM b1 I1 J1) = _ := h2
  refine ⟨b2, I3, J3, ?_⟩
  rw [zg_Law_law_926_e, zl4, x1, zl4, x2, zo0, h1', zci, zl4, x1, zl4, x2, zo181, h2', zci, if_pos rfl, zg_Law_law_1120_e, zn_add6, r]
theorem zl_box (hX : X.1 ≤ 3072) (hL : i + 6 ≤ X.1) (ih : zLw X (i + 6)) {t : zST} {b : Bool} {I : zI} {J : zJ} (hi : zInv t I J) : zEnds (zg_Law_law_959 X 0 0 181 (Int32.ofNat i) (zM b I J)) := by
  have x1 := fun (k : Int32 → Option zv_R) => zlok (X := X) (i := i) (d := 1) (c := 1) (k := k) rfl (by omega) hX
  have x2 := fun (k : Int32 → Option zv_R) => zlok (X := X) (i := i) (d := 2) (c := 2) (k := k) rfl (by omega) hX
  have x3 := fun (k : Int32 → Option zv_R) => zlok (X := X) (i := i) (d := 3) (c := 3) (k := k) rfl (by omega) hX
  have x4 := fun (k : Int32 → Option zv_R) => zlok (X := X) (i := i) (d := 4) (c := 4) (k := k) rfl (by omega) hX
  obtain ⟨v, b1, I1, J1, I2, J2, t1, hv, h1, h2, h3⟩ := go_box X (X.2 (i + 1)) (X.2 (i + 2)) (X.2 (i + 3)) (X.2 (i + 4)) t b I J hi
  obtain ⟨y, rfl⟩ : ∃ y : Int32, v = .int y := by
    rcases hv with h | h
    · first | exact h.2 | exact absurd h.1 (by decide)
    · first | exact h.2 | exact absurd h.1 (by decide)
  obtain ⟨b2, I3, J3, r⟩ := ih t1 b1 I2 J2 h3
  have h1' : zg_GP_box_0 X 0 (X.2 (i + 1)) (X.2 (i + 2)) (X.2 (i + 3)) (X.2 (i + 4)) (zM b I J) = _ := h1
  have h2' : zg_M_box_0 X 181 (X.2 (i + 1)) (X.2 (i + 2)) (X.2 (i + 3)) (X.2 (i + 4)) (zM b1 I1 J1) = _ := h2
  refine ⟨b2, I3, J3, ?_⟩
  rw [zg_Law_law_959_e, zl4, x1, zl4, x2, zl4, x3, zl4, x4, zo0, h1', zci, zl4, x1, zl4, x2, zl4, x3, zl4, x4, zo181, h2', zci, if_pos rfl, zg_Law_law_1120_e, zn_add6, r]
theorem zl_boxed (hX : X.1 ≤ 3072) (hL : i + 6 ≤ X.1) (ih : zLw X (i + 6)) {t : zST} {b : Bool} {I : zI} {J : zJ} (hi : zInv t I J) : zEnds (zg_Law_law_1012 X 0 0 181 (Int32.ofNat i) (zM b I J)) := by
  have x1 := fun (k : Int32 → Option zv_R) => zlok (X := X) (i := i) (d := 1) (c := 1) (k := k) rfl (by omega) hX
  have x2 := fun (k : Int32 → Option zv_R) => zlok (X := X) (i := i) (d := 2) (c := 2) (k := k) rfl (by omega) hX
  obtain ⟨v, b1, I1, J1, I2, J2, t1, hv, h1, h2, h3⟩ := go_boxed X (X.2 (i + 1)) (X.2 (i + 2)) t b I J hi
  obtain ⟨y, rfl⟩ : ∃ y : Int32, v = .int y := by
    rcases hv with h | h
    · first | exact h.2 | exact absurd h.1 (by decide)
    · first | exact h.2 | exact absurd h.1 (by decide)
  obtain ⟨b2, I3, J3, r⟩ := ih t1 b1 I2 J2 h3
  have h1' : zg_GP_boxed_0 X 0 (X.2 (i + 1)) (X.2 (i + 2)) (zM b I J) = _ := h1
  have h2' : zg_M_boxed_0 X 181 (X.2 (i + 1)) (X.2 (i + 2)) (zM b1 I1 J1) = _ := h2
  refine ⟨b2, I3, J3, ?_⟩
  rw [zg_Law_law_1012_e, zl4, x1, zl4, x2, zo0, h1', zci, zl4, x1, zl4, x2, zo181, h2', zci, if_pos rfl, zg_Law_law_1120_e, zn_add6, r]
theorem zl_bestOrder (hX : X.1 ≤ 3072) (hL : i + 6 ≤ X.1) (ih : zLw X (i + 6)) {t : zST} {b : Bool} {I : zI} {J : zJ} (hi : zInv t I J) : zEnds (zg_Law_law_1045 X 0 0 181 (Int32.ofNat i) (zM b I J)) := by
  obtain ⟨v, b1, I1, J1, I2, J2, t1, hv, h1, h2, h3⟩ := go_bestOrder X t b I J hi
  obtain ⟨y, rfl⟩ : ∃ y : Int32, v = .int y := by
    rcases hv with h | h
    · first | exact h.2 | exact absurd h.1 (by decide)
    · first | exact h.2 | exact absurd h.1 (by decide)
  obtain ⟨b2, I3, J3, r⟩ := ih t1 b1 I2 J2 h3
  have h1' : zg_GP_bestOrder_0 X 0 (zM b I J) = _ := h1
  have h2' : zg_M_bestOrder_0 X 181 (zM b1 I1 J1) = _ := h2
  refine ⟨b2, I3, J3, ?_⟩
  rw [zg_Law_law_1045_e, zo0, h1', zci, zo181, h2', zci, if_pos rfl, zg_Law_law_1120_e, zn_add6, r]
theorem zl_image (hX : X.1 ≤ 3072) (hL : i + 6 ≤ X.1) (ih : zLw X (i + 6)) {t : zST} {b : Bool} {I : zI} {J : zJ} (hi : zInv t I J) : zEnds (zg_Law_law_1058 X 0 0 181 (Int32.ofNat i) (zM b I J)) := by
  have x1 := fun (k : Int32 → Option zv_R) => zlok (X := X) (i := i) (d := 1) (c := 1) (k := k) rfl (by omega) hX
  by_cases c : X.2 (i + 1) = 0
  · obtain ⟨v, b1, I1, J1, I2, J2, t1, hv, h1, h2, h3⟩ := go_image X 0 t b I J hi
    obtain ⟨y, rfl⟩ : ∃ y : Int32, v = .int y := by
      rcases hv with h | h
      · first | exact h.2 | exact absurd h.1 (by decide)
      · first | exact h.2 | exact absurd h.1 (by decide)
    obtain ⟨b2, I3, J3, r⟩ := ih t1 b1 I2 J2 h3
    have h1' : zg_GP_image_0 X 0 0 (zM b I J) = _ := h1
    have h2' : zg_M_image_0 X 181 0 (zM b1 I1 J1) = _ := h2
    refine ⟨b2, I3, J3, ?_⟩
    rw [zg_Law_law_1058_e, zl4, x1, if_pos c, zg_Law_law_1071_e, zg_Law_law_1072_e, zo0, h1', zci, zl4, x1, if_pos c, zg_Law_law_1088_e, zg_Law_law_1089_e, zo181, h2', zci, if_pos rfl, zg_Law_law_1120_e, zn_add6, r]
  · obtain ⟨v, b1, I1, J1, I2, J2, t1, hv, h1, h2, h3⟩ := go_image X 1 t b I J hi
    obtain ⟨y, rfl⟩ : ∃ y : Int32, v = .int y := by
      rcases hv with h | h
      · first | exact h.2 | exact absurd h.1 (by decide)
      · first | exact h.2 | exact absurd h.1 (by decide)
    obtain ⟨b2, I3, J3, r⟩ := ih t1 b1 I2 J2 h3
    have h1' : zg_GP_image_0 X 0 1 (zM b I J) = _ := h1
    have h2' : zg_M_image_0 X 181 1 (zM b1 I1 J1) = _ := h2
    refine ⟨b2, I3, J3, ?_⟩
    rw [zg_Law_law_1058_e, zl4, x1, if_neg c, zg_Law_law_1072_e, zo0, h1', zci, zl4, x1, if_neg c, zg_Law_law_1089_e, zo181, h2', zci, if_pos rfl, zg_Law_law_1120_e, zn_add6, r]
theorem zl_look (hX : X.1 ≤ 3072) (hL : i + 6 ≤ X.1) (ih : zLw X (i + 6)) {t : zST} {b : Bool} {I : zI} {J : zJ} (hi : zInv t I J) : zEnds (zg_Law_law_1097 X 0 0 181 (Int32.ofNat i) (zM b I J)) := by
  have x1 := fun (k : Int32 → Option zv_R) => zlok (X := X) (i := i) (d := 1) (c := 1) (k := k) rfl (by omega) hX
  obtain ⟨v, b1, I1, J1, I2, J2, t1, hv, h1, h2, h3⟩ := go_look X (X.2 (i + 1)) t b I J hi
  obtain ⟨y, rfl⟩ : ∃ y : Int32, v = .int y := by
    rcases hv with h | h
    · first | exact h.2 | exact absurd h.1 (by decide)
    · first | exact h.2 | exact absurd h.1 (by decide)
  obtain ⟨b2, I3, J3, r⟩ := ih t1 b1 I2 J2 h3
  have h1' : zg_GP_look_0 X 0 (X.2 (i + 1)) (zM b I J) = _ := h1
  have h2' : zg_M_look_0 X 181 (X.2 (i + 1)) (zM b1 I1 J1) = _ := h2
  refine ⟨b2, I3, J3, ?_⟩
  rw [zg_Law_law_1097_e, zl4, x1, zo0, h1', zci, zl4, x1, zo181, h2', zci, if_pos rfl, zg_Law_law_1120_e, zn_add6, r]
theorem zl_step (hX : X.1 ≤ 3072) (hL : i + 6 ≤ X.1) (ih : zLw X (i + 6)) : zLw X i := fun t b I J hi => by
  have hn : ¬ (Int32.ofNat X.1 - 6 < Int32.ofNat i) := by
    have e6 : (6 : Int32) = Int32.ofNat 6 := rfl
    rw [e6, zn_sub (by omega), zi_lt, zn_int (by omega), zn_int (by omega)]
    omega
  have hn' : ¬ (Int32.ofNat (zv_old X 0).1 - 6 < Int32.ofNat i) := hn
  rw [zg_Law_law_18_e, zl5, if_neg hn', zl4, zlox (by omega) hX]
  by_cases c : ((X.2 i &&& 31) : Int32).toInt < 0 ∨ 30 < ((X.2 i &&& 31) : Int32).toInt
  · rw [if_pos c, zg_Law_law_1120_e, zn_add6]
    exact ih t b I J hi
  · rw [if_neg c]
    have hq : ((X.2 i &&& 31 : Int32).toInt - 0).toNat < 31 := by omega
    generalize ((X.2 i &&& 31 : Int32).toInt - 0).toNat = q at hq
    match q, hq with
    | 0, _ => exact zl_feed hX hL ih hi
    | 1, _ => exact zl_end hX hL ih hi
    | 2, _ => exact zl_text hX hL ih hi
    | 3, _ => exact zl_fault hX hL ih hi
    | 4, _ => exact zl_set hX hL ih hi
    | 5, _ => exact zl_insert hX hL ih hi
    | 6, _ => exact zl_remove hX hL ih hi
    | 7, _ => exact zl_undo hX hL ih hi
    | 8, _ => exact zl_build hX hL ih hi
    | 9, _ => exact zl_count hX hL ih hi
    | 10, _ => exact zl_key hX hL ih hi
    | 11, _ => exact zl_rank hX hL ih hi
    | 12, _ => exact zl_range hX hL ih hi
    | 13, _ => exact zl_piece hX hL ih hi
    | 14, _ => exact zl_guess hX hL ih hi
    | 15, _ => exact zl_seek hX hL ih hi
    | 16, _ => exact zl_pages hX hL ih hi
    | 17, _ => exact zl_errors hX hL ih hi
    | 18, _ => exact zl_bestSlack hX hL ih hi
    | 19, _ => exact zl_lay hX hL ih hi
    | 20, _ => exact zl_put hX hL ih hi
    | 21, _ => exact zl_cell hX hL ih hi
    | 22, _ => exact zl_poison hX hL ih hi
    | 23, _ => exact zl_passes hX hL ih hi
    | 24, _ => exact zl_falses hX hL ih hi
    | 25, _ => exact zl_point hX hL ih hi
    | 26, _ => exact zl_box hX hL ih hi
    | 27, _ => exact zl_boxed hX hL ih hi
    | 28, _ => exact zl_bestOrder hX hL ih hi
    | 29, _ => exact zl_image hX hL ih hi
    | 30, _ => exact zl_look hX hL ih hi
    | q + 31, h => exact absurd h (by omega)
theorem zl_fin (hX : X.1 ≤ 3072) (hi6 : i ≤ 3072) (hL : X.1 < i + 6) : zLw X i := fun t b I J hi => by
  have hn : Int32.ofNat X.1 - 6 < Int32.ofNat i := by
    have e6 : (6 : Int32).toInt = 6 := rfl
    rw [zi_lt, zi_sub, zn_int (by omega), zn_int (by omega), e6]
    · omega
    · rw [zn_int (by omega), e6]; omega
    · rw [zn_int (by omega), e6]; omega
  have hn' : Int32.ofNat (zv_old X 0).1 - 6 < Int32.ofNat i := hn
  refine ⟨b, I, J, ?_⟩
  rw [zg_Law_law_18_e, zl5, if_pos hn', zg_Law_law_1126_e, zrb1]
theorem zl_all (hX : X.1 ≤ 3072) : ∀ (m i : Nat), i ≤ 3072 → X.1 < i + 6 * (m + 1) → zLw X i
  | 0, i, h1, h2 => zl_fin hX h1 (by omega)
  | m + 1, i, h1, h2 => by
    rcases Nat.lt_or_ge X.1 (i + 6) with c | c
    · exact zl_fin hX h1 c
    · exact zl_step hX c (zl_all hX m (i + 6) (by omega) (by omega))
theorem zl_law (hX : X.1 ≤ 3072) : zLw X 0 := zl_all hX 600 0 (by omega) (by omega)
end ZLAW
