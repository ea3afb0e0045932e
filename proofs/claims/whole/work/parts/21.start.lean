theorem zAO2 {ty : FieldType} {s : State} {args : Array Value} (h : (Cond.arrayOver (.array ty)).before args s = true) : zA2 ty s := by
  unfold Cond.before Cond.holds at h
  simp only [Cond.value, beq_iff_eq] at h
  cases hc : s.vm.findClass (FieldType.array ty).toString with
  | none => simp [hc] at h
  | some comp =>
    simp only [hc, Option.bind_some, Option.bind_eq_some_iff, Option.map_eq_some_iff] at h
    obtain ⟨c, hi, k, hk, hb⟩ := h
    obtain ⟨hlt, hp, -⟩ := Array.findIdx?_eq_some_iff_getElem.mp hi
    have hkk : s.vm.classes[c] = k := (Array.getElem?_eq_some_iff.mp hk).2
    rw [hkk] at hp
    cases hkind : k.kind with
    | array component t9 =>
      rw [hkind] at hb hp
      simp only [Bool.and_eq_true, decide_eq_true_eq] at hb
      have e1 : component = comp := by simpa using hp
      exact ⟨comp, c, k, hc, hb.2, hk, by rw [hkind, e1, hb.1]⟩
    | _ => rw [hkind] at hb; simp at hb
/-- what is known of the arrays' kinds at the start -/
theorem zst_A {s : State} {b : Nat} (hts : ∀ w ∈ lw_tbl, w.before #[Value.ref b] s = true) : ∃ cA : Nat → ClassId, ∀ (k : Nat) (q : ClassId × FieldType), (zv_tys cA)[k]? = some q → ArrOfT s q.1 q.2 ∧ va_RA s q.1 q.2 := by
  have hp : ∀ ty : FieldType, Cond.arrayClass ty ∈ lw_tbl → ∃ c, ArrOfT s c ty ∧ s.vm.findClass ("[" ++ ty.toString) = some c := by
    intro ty hw
    obtain ⟨c, k, comp, h1, h2, h3⟩ := Cond.arrayClass_spec (hts _ hw)
    exact ⟨c, fun n z => ⟨fun k h => (by cases h), k, h2, comp, h3⟩, h1⟩
  have hi := (List.mem_filter.mp zt_ac.1).1
  have hl := (List.mem_filter.mp zt_ac.2.1).1
  have hb := (List.mem_filter.mp zt_ac.2.2.1).1
  have hz := (List.mem_filter.mp zt_ac.2.2.2).1
  obtain ⟨c0, a0, b0⟩ := hp _ hi
  obtain ⟨c1, a1, b1⟩ := hp _ hl
  obtain ⟨c2, a2, b2⟩ := hp _ hb
  obtain ⟨c3, a3, b3⟩ := hp _ hz
  obtain ⟨comp4, c4, k4, f1, f2, f3, f4, f5⟩ := Cond.arrayOver_spec (hts (.arrayOver (.object "GuessedPlace$Level")) (by decide +kernel))
  obtain ⟨d5, c5, k5, g1, g2, g3, g4⟩ := zAO2 (hts (.arrayOver (.array .int)) (by decide +kernel))
  obtain ⟨d6, c6, k6, h1, h2, h3, h4⟩ := zAO2 (hts (.arrayOver (.array .long)) (by decide +kernel))
  refine ⟨fun i => match i with
    | 0 => c0
    | 1 => c1
    | 2 => c2
    | 3 => c3
    | 4 => c4
    | 5 => c5
    | _ => c6, ?_⟩
  intro k q hq
  match k, hq with
  | 0, hq => cases hq; exact ⟨a0, b0⟩
  | 1, hq => cases hq; exact ⟨a1, b1⟩
  | 2, hq => cases hq; exact ⟨a2, b2⟩
  | 3, hq => cases hq; exact ⟨a3, b3⟩
  | 4, hq => cases hq; exact ⟨fun n z => ⟨fun k h => (by cases h), k4, f3, comp4, f4⟩, k4, comp4, f3, f4, f1, f5⟩
  | 5, hq => cases hq; exact ⟨fun n z => ⟨fun k h => (by cases h), k5, g3, d5, g4⟩, g2⟩
  | 6, hq => cases hq; exact ⟨fun n z => ⟨fun k h => (by cases h), k6, h3, d6, h4⟩, h2⟩
  | k + 7, hq => simp [zv_tys] at hq
/-- what is known of the made kinds at the start -/
theorem zst_D {s : State} {b : Nat} (hts : ∀ w ∈ lw_tbl, w.before #[Value.ref b] s = true) : ∃ D : va_G, ∀ (k : Nat) (q : vw_C), vwCl[k]? = some q → u_Kn s q.1 q.2.1 q.2.2 (D.1 k) (D.2 k) := by
  obtain ⟨c0, i0, h0⟩ := u_known (C := RX0) (T := TX0) (N := 4) (n := 4) hts (fun w hw => (List.mem_filter.mp (zk_ws0 w hw)).1) (hts _ (List.mem_filter.mp zk_0.2.2.2.2.2.2.1).1)
  obtain ⟨c1, i1, h1⟩ := u_known (C := RX1) (T := TX1) (N := 4) (n := 4) hts (fun w hw => (List.mem_filter.mp (zk_ws1 w hw)).1) (hts _ (List.mem_filter.mp zk_1.2.2.2.2.2.2.1).1)
  obtain ⟨c2, i2, h2⟩ := u_known (C := RX2) (T := TX2) (N := 4) (n := 4) hts (fun w hw => (List.mem_filter.mp (zk_ws2 w hw)).1) (hts _ (List.mem_filter.mp zk_2.2.2.2.2.2.2.1).1)
  obtain ⟨c3, i3, h3⟩ := u_known (C := RX3) (T := TX3) (N := 1) (n := 1) hts (fun w hw => (List.mem_filter.mp (zk_ws3 w hw)).1) (hts _ (List.mem_filter.mp zk_3.2.2.2.2.2.2.1).1)
  obtain ⟨c4, i4, h4⟩ := u_known (C := RX4) (T := TX4) (N := 3) (n := 3) hts (fun w hw => (List.mem_filter.mp (zk_ws4 w hw)).1) (hts _ (List.mem_filter.mp zk_4.2.2.2.2.2.2.1).1)
  obtain ⟨c5, i5, h5⟩ := u_known (C := RX5) (T := TX5) (N := 8) (n := 8) hts (fun w hw => (List.mem_filter.mp (zk_ws5 w hw)).1) (hts _ (List.mem_filter.mp zk_5.2.2.2.2.2.2.1).1)
  obtain ⟨c6, i6, h6⟩ := u_known (C := RX6) (T := TX6) (N := 5) (n := 5) hts (fun w hw => (List.mem_filter.mp (zk_ws6 w hw)).1) (hts _ (List.mem_filter.mp zk_6.2.2.2.2.2.2.1).1)
  obtain ⟨c7, i7, h7⟩ := u_known (C := RX7) (T := TX7) (N := 6) (n := 6) hts (fun w hw => (List.mem_filter.mp (zk_ws7 w hw)).1) (hts _ (List.mem_filter.mp zk_7.2.2.2.2.2.2.1).1)
  obtain ⟨c8, i8, h8⟩ := u_known (C := RX8) (T := TX8) (N := 5) (n := 5) hts (fun w hw => (List.mem_filter.mp (zk_ws8 w hw)).1) (hts _ (List.mem_filter.mp zk_8.2.2.2.2.2.2.1).1)
  obtain ⟨c9, i9, h9⟩ := u_known (C := RX9) (T := TX9) (N := 8) (n := 8) hts (fun w hw => (List.mem_filter.mp (zk_ws9 w hw)).1) (hts _ (List.mem_filter.mp zk_9.2.2.2.2.2.2.1).1)
  obtain ⟨c10, i10, h10⟩ := u_known (C := RX10) (T := TX10) (N := 10) (n := 10) hts (fun w hw => (List.mem_filter.mp (zk_ws10 w hw)).1) (hts _ (List.mem_filter.mp zk_10.2.2.2.2.2.2.1).1)
  obtain ⟨c11, i11, h11⟩ := u_known (C := RX11) (T := TX11) (N := 8) (n := 8) hts (fun w hw => (List.mem_filter.mp (zk_ws11 w hw)).1) (hts _ (List.mem_filter.mp zk_11.2.2.2.2.2.2.1).1)
  obtain ⟨c12, i12, h12⟩ := u_known (C := RX12) (T := TX12) (N := 33) (n := 33) hts (fun w hw => (List.mem_filter.mp (zk_ws12 w hw)).1) (hts _ (List.mem_filter.mp zk_12.2.2.2.2.2.2.1).1)
  refine ⟨(fun k => match k with
    | 0 => c0
    | 1 => c1
    | 2 => c2
    | 3 => c3
    | 4 => c4
    | 5 => c5
    | 6 => c6
    | 7 => c7
    | 8 => c8
    | 9 => c9
    | 10 => c10
    | 11 => c11
    | 12 => c12
    | _ => c0, fun k => match k with
    | 0 => i0
    | 1 => i1
    | 2 => i2
    | 3 => i3
    | 4 => i4
    | 5 => i5
    | 6 => i6
    | 7 => i7
    | 8 => i8
    | 9 => i9
    | 10 => i10
    | 11 => i11
    | 12 => i12
    | _ => i0), ?_⟩
  intro k q hq
  match k, hq with
  | 0, hq => cases hq; exact h0
  | 1, hq => cases hq; exact h1
  | 2, hq => cases hq; exact h2
  | 3, hq => cases hq; exact h3
  | 4, hq => cases hq; exact h4
  | 5, hq => cases hq; exact h5
  | 6, hq => cases hq; exact h6
  | 7, hq => cases hq; exact h7
  | 8, hq => cases hq; exact h8
  | 9, hq => cases hq; exact h9
  | 10, hq => cases hq; exact h10
  | 11, hq => cases hq; exact h11
  | 12, hq => cases hq; exact h12
  | k + 13, hq => simp [vwCl] at hq
theorem zold_S (X : zv_X) : ∀ i, i < 7 → (zv_old X (50 + i)).1 = zsl7.getD i 0 ∧ (zv_old X (50 + i)).2 = fun j => (zsb.getD i []).getD j 0 := z7 ⟨⟨rfl, rfl⟩, ⟨rfl, rfl⟩, ⟨rfl, rfl⟩, ⟨rfl, rfl⟩, ⟨rfl, rfl⟩, ⟨rfl, rfl⟩, ⟨rfl, rfl⟩⟩
theorem zst_Z {s : State} {b : Nat} (hts : ∀ w ∈ lw_tbl, w.before #[Value.ref b] s = true) {C n d : String} {v : Value} (h1 : Cond.laysStatic C n d ∈ lw_tbl) (h2 : Cond.initialized C ∈ lw_tbl) (hv : (Term.static C n d).eval #[Value.ref b] s none [] s = some v) : va_Z C n d v (fun q => s.heap.size ≤ q) s s.heap := va_Zof (hts _ h1) (hts _ h2) hv (fun a h9 => Nat.not_le.mpr h9)
set_option maxRecDepth 100000 in
set_option maxHeartbeats 4000000 in
/-- the world before the law -/
theorem zst_G {s : State} {b L : Nat} {xs : Nat → Int32} (hL : L ≤ 3072) (hts : ∀ w ∈ lw_tbl, w.before #[Value.ref b] s = true) (hX : va_X b L xs s s.heap) (hbl : b < s.heap.size) (hgv : (Jvm.Cond.and given_1 narrow_1).before #[Value.ref b] s = true) : ∃ ov : Nat → Value, ov 0 = .ref b ∧ ((∀ i, (ov i).category = 1) ∧ ∀ i, i ≠ 90 → ∃ t, ov i = .ref t) ∧ zG (L, xs) s.heap.size ov s s.heap := by
  obtain ⟨t1, ev1, T1⟩ := zst_T1 (X := (L, xs)) hgv
  obtain ⟨t2, ev2, T2⟩ := zst_T2 (X := (L, xs)) hgv
  obtain ⟨t3, ev3, T3⟩ := zst_T3 (X := (L, xs)) hgv
  obtain ⟨cell, F⟩ := zst_F (X := (L, xs)) hgv ev1 T1
  obtain ⟨adK, adV, hS, hev⟩ := zst_S hgv
  have hs := flat_of_before _ hgv
  have hq9 := va_Zqof (A := fun q => s.heap.size ≤ q) (hts (.laysStatic "jdk/internal/util/Preconditions" "SIOOBE_FORMATTER" "Ljava/util/function/BiFunction;") (by decide +kernel)) (hts (.initialized "jdk/internal/util/Preconditions") (by decide +kernel)) (hs (.isRef (.static "jdk/internal/util/Preconditions" "SIOOBE_FORMATTER" "Ljava/util/function/BiFunction;")) (by decide +kernel)) (fun a h9 => Nat.not_le.mpr h9)
  obtain ⟨v9, hv9, hz9⟩ : ∃ v, (v = .null ∨ ∃ t, v = .ref t) ∧ va_Z "jdk/internal/util/Preconditions" "SIOOBE_FORMATTER" "Ljava/util/function/BiFunction;" v (fun q => s.heap.size ≤ q) s s.heap := by
    rcases hq9 with h | ⟨t, h⟩
    · exact ⟨_, Or.inl rfl, h⟩
    · exact ⟨_, Or.inr ⟨t, rfl⟩, h⟩
  refine ⟨fun i => if i = 90 then v9 else if i = 0 then .ref b else if i = 1 then .ref t1 else if i = 2 then .ref t2 else if i = 3 then .ref t3 else if i < 50 then .ref (adK (i - 20)) else .ref (adV (i - 50)), rfl, ⟨fun i => ?_, fun i hi => ?_⟩, ?_⟩
  · dsimp only
    split
    · rcases hv9 with rfl | ⟨t, rfl⟩ <;> rfl
    · repeat' (first | rfl | split)
  · dsimp only
    rw [if_neg hi]
    repeat' (first | exact ⟨_, rfl⟩ | split)
  refine ⟨fun i hi => ?_, fun i hi => ?_, ⟨?_, ?_, ?_, ?_, ?_⟩, ?_, ?_, ?_, ?_, ?_, ?_⟩
  · match i, hi with
    | 0, _ =>
      refine ⟨b, rfl, ?_⟩
      obtain ⟨scr, x1, x2, x3, x4, x5⟩ := hX
      exact ⟨scr, x1, x2, x3, by show L ≤ _; rw [x4]; exact Nat.le_refl _, by show Int32.ofNat scr.slots.size = Int32.ofNat L; rw [x4], x5, Nat.not_le.mpr hbl⟩
    | 1, _ => exact ⟨t1, rfl, T1⟩
    | 2, _ => exact ⟨t2, rfl, T2⟩
    | 3, _ => exact ⟨t3, rfl, T3⟩
    | i + 4, h => exact absurd h (by omega)
  · obtain ⟨s1, s2, s3, s4⟩ := hS.1 i hi
    have e1 : (20 + i) - 20 = i := by omega
    have e2 : (50 + i) - 50 = i := by omega
    refine ⟨adK i, adV i, ?_, ?_, s1, s2, s3, ?_⟩
    · dsimp only
      rw [if_neg (by omega), if_neg (by omega), if_neg (by omega), if_neg (by omega), if_neg (by omega), if_pos (by omega), e1]
    · dsimp only
      rw [if_neg (by omega), if_neg (by omega), if_neg (by omega), if_neg (by omega), if_neg (by omega), if_neg (by omega), e2]
    · obtain ⟨q1, q2⟩ := zold_S (L, xs) i hi
      rw [q1, q2]
      exact s4
  · exact zst_Z hts (by decide +kernel) (by decide +kernel) ev1
  · exact zst_Z hts (by decide +kernel) (by decide +kernel) ev2
  · exact zst_Z hts (by decide +kernel) (by decide +kernel) ev3
  · exact zst_Z hts (by decide +kernel) (by decide +kernel) (va_eqi (z := 1) (hs (.eq (.static "java/lang/String" "COMPACT_STRINGS" "Z") (.int 1)) (by decide +kernel)))
  · exact hz9
  · intro q hq
    simp only [zv_sr, List.mem_cons, List.not_mem_nil, or_false] at hq
    rcases hq with rfl | rfl | rfl | rfl | rfl | rfl | rfl | rfl | rfl | rfl | rfl | rfl | rfl
    · exact ⟨adK 0, rfl, vk_R.of (hts (.stringRef "GuessedPlace$Teller" 151 "key") (by decide +kernel)) (hev 0 (by decide))⟩
    · exact ⟨adK 1, rfl, vk_R.of (hts (.stringRef "GuessedPlace$Teller" 153 "run") (by decide +kernel)) (hev 1 (by decide))⟩
    · exact ⟨adK 2, rfl, vk_R.of (hts (.stringRef "GuessedPlace$Teller" 155 "drop") (by decide +kernel)) (hev 2 (by decide))⟩
    · exact ⟨adK 3, rfl, vk_R.of (hts (.stringRef "GuessedPlace$Teller" 157 "slack") (by decide +kernel)) (hev 3 (by decide))⟩
    · exact ⟨adK 4, rfl, vk_R.of (hts (.stringRef "GuessedPlace$Teller" 159 "upper") (by decide +kernel)) (hev 4 (by decide))⟩
    · exact ⟨adK 5, rfl, vk_R.of (hts (.stringRef "GuessedPlace$Teller" 161 "room") (by decide +kernel)) (hev 5 (by decide))⟩
    · exact ⟨adK 6, rfl, vk_R.of (hts (.stringRef "GuessedPlace$Teller" 163 "") (by decide +kernel)) (hev 6 (by decide))⟩
    · exact ⟨adK 0, rfl, vk_R.of (hts (.stringRef "GuessedPlaceModel" 141 "key") (by decide +kernel)) (va_eqR (hs (.eq (.string "GuessedPlace$Teller" 151) (.string "GuessedPlaceModel" 141)) (by decide +kernel)) (hev 0 (by decide)))⟩
    · exact ⟨adK 1, rfl, vk_R.of (hts (.stringRef "GuessedPlaceModel" 147 "run") (by decide +kernel)) (va_eqR (hs (.eq (.string "GuessedPlace$Teller" 153) (.string "GuessedPlaceModel" 147)) (by decide +kernel)) (hev 1 (by decide)))⟩
    · exact ⟨adK 2, rfl, vk_R.of (hts (.stringRef "GuessedPlaceModel" 149 "drop") (by decide +kernel)) (va_eqR (hs (.eq (.string "GuessedPlace$Teller" 155) (.string "GuessedPlaceModel" 149)) (by decide +kernel)) (hev 2 (by decide)))⟩
    · exact ⟨adK 3, rfl, vk_R.of (hts (.stringRef "GuessedPlaceModel" 151 "slack") (by decide +kernel)) (va_eqR (hs (.eq (.string "GuessedPlace$Teller" 157) (.string "GuessedPlaceModel" 151)) (by decide +kernel)) (hev 3 (by decide)))⟩
    · exact ⟨adK 4, rfl, vk_R.of (hts (.stringRef "GuessedPlaceModel" 153 "upper") (by decide +kernel)) (va_eqR (hs (.eq (.string "GuessedPlace$Teller" 159) (.string "GuessedPlaceModel" 153)) (by decide +kernel)) (hev 4 (by decide)))⟩
    · exact ⟨adK 5, rfl, vk_R.of (hts (.stringRef "GuessedPlaceModel" 155 "room") (by decide +kernel)) (va_eqR (hs (.eq (.string "GuessedPlace$Teller" 161) (.string "GuessedPlaceModel" 155)) (by decide +kernel)) (hev 5 (by decide)))⟩
  · intro w hw
    have hw2 : w ∈ lw_tbl := by
      revert w
      decide +kernel
    simp only [zv_nw, List.mem_cons, List.not_mem_nil, or_false] at hw
    have h9 := hts w hw2
    rcases hw with rfl | rfl | rfl | rfl | rfl | rfl | rfl | rfl | rfl | rfl | rfl | rfl | rfl | rfl | rfl | rfl | rfl <;> exact va_Nw.of rfl h9
  · exact va_AO.of (hts (.arrayOver (.object "GuessedPlace$Level")) (by decide +kernel))
  · exact zAO2 (hts (.arrayOver (.array .int)) (by decide +kernel))
  · exact zAO2 (hts (.arrayOver (.array .long)) (by decide +kernel))
  · exact ⟨t1, cell, rfl, F⟩
