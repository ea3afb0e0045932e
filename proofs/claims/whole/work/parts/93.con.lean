/-! THE CONSTRUCTORS: the memory grows cell by cell -/
abbrev zPP : Type := Nat → Nat → Option Nat
def zK (n : Nat) (I : zI) (J : zJ) (P : zPP) : zv_M := (zSH.take n, I, J, P)
def zcln (n : Nat) (I : zI) (J : zJ) (P : zPP) : Prop := ∀ a, n ≤ a → I a = (fun _ => 0) ∧ J a = (fun _ => 0) ∧ P a = (fun _ => none)
def zpu (P : zPP) (a j : Nat) (x : Option Nat) : zPP := va_up P a (va_up (P a) j x)
def zPm (P : zPP) (o n : Nat) : zPP := fun a => if o ≤ a ∧ a < n then zP false a else P a
section ZCON
variable {n : Nat} {I : zI} {J : zJ} {P : zPP} {α : Type}
set_option maxRecDepth 100000 in
theorem zSH_len : zSH.length = 258 := by decide +kernel
theorem zup_id {β : Type} {f : Nat → β} {a : Nat} {v : β} (h : f a = v) : va_up f a v = f := by
  funext b
  unfold va_up
  split
  · rename_i e
    rw [e, h]
  · rfl
theorem zK_len (h : n ≤ 258) : (zK n I J P).1.length = n := by
  show (zSH.take n).length = n
  rw [List.length_take, zSH_len]; omega
theorem zK_mk {sh : (Nat × Nat) ⊕ Nat} (hs : zSH[n]? = some sh) (hc : zcln n I J P) : zv_mk (zK n I J P) sh = zK (n + 1) I J P := by
  have hn := (List.getElem?_eq_some_iff.mp hs).1
  rw [zSH_len] at hn
  obtain ⟨c1, c2, c3⟩ := hc n (Nat.le_refl _)
  unfold zv_mk
  rw [zK_len (by omega)]
  show (zSH.take n ++ [sh], va_up I n _, va_up J n _, va_up P n _) = (zSH.take (n + 1), I, J, P)
  rw [zup_id c1, zup_id c2, zup_id c3, List.take_succ, hs]
  rfl
theorem zK_get {a : Nat} (h : a < n) : (zK n I J P).1[a]? = zSH[a]? := by
  show (zSH.take n)[a]? = _
  rw [List.getElem?_take_of_lt h]
theorem zK_ob {a c : Nat} {r : Option α} (h : a < n) (hs : zSH[a]? = some (.inr c)) : zv_ob (zK n I J P) c a r = r := by
  unfold zv_ob
  rw [zK_get h, hs]
  exact if_pos rfl
theorem zK_cc {a m : Nat} {r : Option α} (h : a < n) (hs : zSH[a]? = some (.inl (0, m))) : zv_cc (zK n I J P) a r = r := by
  unfold zv_cc
  rw [zK_get h, hs]
  rfl
theorem zK_ll {a t m : Nat} {k : Nat → Option α} (h : a < n) (hs : zSH[a]? = some (.inl (t, m))) (ht : t < 7) : zv_len (zK n I J P) a k = k m := by
  unfold zv_len
  rw [zK_get h, hs]
  exact if_pos ht
theorem zK_ix {a t m j : Nat} {k : Nat → Option α} (h : a < n) (hs : zSH[a]? = some (.inl (t, m))) (hj : j < m) (hm : m < 2 ^ 31) : zv_ix (zK n I J P) t a (Int32.ofNat j) k = k j := by
  have e : (Int32.ofNat j).toNatClampNeg = j := Int32.toNatClampNeg_ofNat_of_lt (by omega)
  have e2 : ¬ Int32.ofNat j < 0 := by
    rw [Int32.lt_iff_toInt_lt, Int32.toInt_ofNat_of_lt (by omega)]
    show ¬ (j : Int) < 0
    omega
  unfold zv_ix
  rw [zK_get h, hs]
  simp only [if_true, e]
  rw [if_neg]
  rintro (q | q)
  · exact e2 q
  · omega
theorem zK_wP {a j : Nat} {x : Option Nat} : zv_wP (zK n I J P) a j x = zK n I J (zpu P a j x) := rfl
theorem zK_wI {a j : Nat} {x : Int32} : zv_wI (zK n I J P) a j x = zK n (zst I a j x) J P := rfl
theorem zK_wA {a : Nat} {f : Nat → Int32} : zv_wA (zK n I J P) a f = zK n (va_up I a f) J P := rfl
theorem zK_P : (zK n I J P).2.2.2 = P := rfl
theorem zK_I : (zK n I J P).2.1 = I := rfl
theorem zpu_ne {a a' j : Nat} {x : Option Nat} (h : a' ≠ a) : zpu P a j x a' = P a' := zup_ne h
theorem zpu_same {a j : Nat} {x : Option Nat} : zpu P a j x a = va_up (P a) j x := zup_same
theorem zPm_in {o n a : Nat} (h : o ≤ a ∧ a < n) : zPm P o n a = zP false a := if_pos h
theorem zPm_out {o n a : Nat} (h : a < o ∨ n ≤ a) : zPm P o n a = P a := if_neg (by omega)
theorem zPm_mk {P' : zPP} {o n' : Nat} (h1 : ∀ a, o < a → a < n' → P' a = zP false a) (h2 : P' o = zP false o) (h3 : ∀ a, (a < o ∨ n' ≤ a) → P' a = P a) : P' = zPm P o n' := by
  funext a
  unfold zPm
  by_cases c : o ≤ a ∧ a < n'
  · rw [if_pos c]
    rcases Nat.lt_or_ge o a with w | w
    · exact h1 a w c.2
    · have : a = o := by omega
      rw [this]; exact h2
  · rw [if_neg c]
    exact h3 a (by omega)
theorem zcln_le {n' : Nat} (h : zcln n I J P) (hn : n ≤ n') : zcln n' I J P := fun a ha => h a (by omega)
theorem zcln_wP {a j : Nat} {x : Option Nat} (h : zcln n I J P) (ha : a < n) : zcln n I J (zpu P a j x) := fun a' ha' => ⟨(h a' ha').1, (h a' ha').2.1, by rw [zpu_ne (by omega)]; exact (h a' ha').2.2⟩
theorem zcln_Pm {o n' : Nat} (h : zcln n I J P) (hn : n ≤ n') : zcln n' I J (zPm P o n') := fun a ha => ⟨(h a (by omega)).1, (h a (by omega)).2.1, by rw [zPm_out (by omega)]; exact (h a (by omega)).2.2⟩
theorem zcln_I {a : Nat} {f : Nat → Int32} (h : zcln n I J P) (ha : a < n) : zcln n (va_up I a f) J P := fun a' ha' => ⟨by rw [zup_ne (by omega)]; exact (h a' ha').1, (h a' ha').2⟩
theorem zcln_st {a j : Nat} {x : Int32} (h : zcln n I J P) (ha : a < n) : zcln n (zst I a j x) J P := zcln_I h ha
theorem zPr {a : Nat} {l : List (Option Nat)} (h1 : a ≠ 178) (h2 : zPL.getD a [] = l) : zP false a = fun j => l.getD j none := by
  funext j
  unfold zP
  rw [if_neg (fun q => h1 q.1), h2]
theorem zPr0 {a : Nat} (h1 : a ≠ 178) (h2 : zPL.getD a [] = []) : zP false a = fun _ => none := by
  rw [zPr h1 h2]
  funext j
  rfl
end ZCON
theorem zi_Keys_2 (X : zv_X) {I : zI} {J : zJ} {P : zPP} (hc : zcln 2 I J P) : zg_Keys_init_0 X 2 (zK 3 I J P) = some (none, zK 5 I J (zPm P 2 5)) := by
  have hE : zpu (zpu P 2 0 (some 3)) 2 1 (some 4) = zPm P 2 5 := by
    refine zPm_mk (fun a h1 h2 => ?_) ?_ (fun a ha => ?_)
    · have hq : a = 3 ∨ a = 4 := by omega
      rcases hq with rfl | rfl
      · exact ((hc 3 (by decide)).2.2).trans (zPr0 (by decide) rfl).symm
      · exact ((hc 4 (by decide)).2.2).trans (zPr0 (by decide) rfl).symm
    · rw [zPr (l := [some 3, some 4]) (by decide) rfl]
      have h0 : P 2 = fun _ => none := (hc 2 (by decide)).2.2
      rw [zpu_same, zpu_same, h0]
      funext j
      match j with
      | 0 => rfl
      | 1 => rfl
      | j + 2 => rfl
    · rw [zpu_ne (by omega), zpu_ne (by omega)]
  have c0 : zcln 3 I J P := zcln_le hc (by decide)
  have c1 := zcln_wP (a := 2) (j := 0) (x := some 3) (zcln_le c0 (show 3 ≤ 4 by decide)) (show 2 < 4 by decide)
  rw [zg_Keys_init_0_e, show Int32.toNatClampNeg 300 = 300 from rfl, if_neg (by decide), zK_mk (n := 3) rfl c0, zK_ob (a := 2) (c := 4) (by decide) rfl, zK_len (n := 3) (by decide), zK_wP, if_neg (by decide), zK_mk (n := 4) rfl c1, zK_ob (a := 2) (c := 4) (by decide) rfl, zK_len (n := 4) (by decide), zK_wP, hE]
theorem zi_Keys_17 (X : zv_X) {I : zI} {J : zJ} {P : zPP} (hc : zcln 17 I J P) : zg_Keys_init_0 X 17 (zK 18 I J P) = some (none, zK 20 I J (zPm P 17 20)) := by
  have hE : zpu (zpu P 17 0 (some 18)) 17 1 (some 19) = zPm P 17 20 := by
    refine zPm_mk (fun a h1 h2 => ?_) ?_ (fun a ha => ?_)
    · have hq : a = 18 ∨ a = 19 := by omega
      rcases hq with rfl | rfl
      · exact ((hc 18 (by decide)).2.2).trans (zPr0 (by decide) rfl).symm
      · exact ((hc 19 (by decide)).2.2).trans (zPr0 (by decide) rfl).symm
    · rw [zPr (l := [some 18, some 19]) (by decide) rfl]
      have h0 : P 17 = fun _ => none := (hc 17 (by decide)).2.2
      rw [zpu_same, zpu_same, h0]
      funext j
      match j with
      | 0 => rfl
      | 1 => rfl
      | j + 2 => rfl
    · rw [zpu_ne (by omega), zpu_ne (by omega)]
  have c0 : zcln 18 I J P := zcln_le hc (by decide)
  have c1 := zcln_wP (a := 17) (j := 0) (x := some 18) (zcln_le c0 (show 18 ≤ 19 by decide)) (show 17 < 19 by decide)
  rw [zg_Keys_init_0_e, show Int32.toNatClampNeg 300 = 300 from rfl, if_neg (by decide), zK_mk (n := 18) rfl c0, zK_ob (a := 17) (c := 4) (by decide) rfl, zK_len (n := 18) (by decide), zK_wP, if_neg (by decide), zK_mk (n := 19) rfl c1, zK_ob (a := 17) (c := 4) (by decide) rfl, zK_len (n := 19) (by decide), zK_wP, hE]
theorem zi_Keys_33 (X : zv_X) {I : zI} {J : zJ} {P : zPP} (hc : zcln 33 I J P) : zg_Keys_init_0 X 33 (zK 34 I J P) = some (none, zK 36 I J (zPm P 33 36)) := by
  have hE : zpu (zpu P 33 0 (some 34)) 33 1 (some 35) = zPm P 33 36 := by
    refine zPm_mk (fun a h1 h2 => ?_) ?_ (fun a ha => ?_)
    · have hq : a = 34 ∨ a = 35 := by omega
      rcases hq with rfl | rfl
      · exact ((hc 34 (by decide)).2.2).trans (zPr0 (by decide) rfl).symm
      · exact ((hc 35 (by decide)).2.2).trans (zPr0 (by decide) rfl).symm
    · rw [zPr (l := [some 34, some 35]) (by decide) rfl]
      have h0 : P 33 = fun _ => none := (hc 33 (by decide)).2.2
      rw [zpu_same, zpu_same, h0]
      funext j
      match j with
      | 0 => rfl
      | 1 => rfl
      | j + 2 => rfl
    · rw [zpu_ne (by omega), zpu_ne (by omega)]
  have c0 : zcln 34 I J P := zcln_le hc (by decide)
  have c1 := zcln_wP (a := 33) (j := 0) (x := some 34) (zcln_le c0 (show 34 ≤ 35 by decide)) (show 33 < 35 by decide)
  rw [zg_Keys_init_0_e, show Int32.toNatClampNeg 300 = 300 from rfl, if_neg (by decide), zK_mk (n := 34) rfl c0, zK_ob (a := 33) (c := 4) (by decide) rfl, zK_len (n := 34) (by decide), zK_wP, if_neg (by decide), zK_mk (n := 35) rfl c1, zK_ob (a := 33) (c := 4) (by decide) rfl, zK_len (n := 35) (by decide), zK_wP, hE]
theorem zi_Acts_7 (X : zv_X) {I : zI} {J : zJ} {P : zPP} (hc : zcln 7 I J P) : zg_Acts_init_0 X 7 (zK 8 I J P) = some (none, zK 10 I J (zPm P 7 10)) := by
  have hE : zpu (zpu P 7 0 (some 8)) 7 1 (some 9) = zPm P 7 10 := by
    refine zPm_mk (fun a h1 h2 => ?_) ?_ (fun a ha => ?_)
    · have hq : a = 8 ∨ a = 9 := by omega
      rcases hq with rfl | rfl
      · exact ((hc 8 (by decide)).2.2).trans (zPr0 (by decide) rfl).symm
      · exact ((hc 9 (by decide)).2.2).trans (zPr0 (by decide) rfl).symm
    · rw [zPr (l := [some 8, some 9]) (by decide) rfl]
      have h0 : P 7 = fun _ => none := (hc 7 (by decide)).2.2
      rw [zpu_same, zpu_same, h0]
      funext j
      match j with
      | 0 => rfl
      | 1 => rfl
      | j + 2 => rfl
    · rw [zpu_ne (by omega), zpu_ne (by omega)]
  have c0 : zcln 8 I J P := zcln_le hc (by decide)
  have c1 := zcln_wP (a := 7) (j := 0) (x := some 8) (zcln_le c0 (show 8 ≤ 9 by decide)) (show 7 < 9 by decide)
  rw [zg_Acts_init_0_e, show Int32.toNatClampNeg 20 = 20 from rfl, if_neg (by decide), zK_mk (n := 8) rfl c0, zK_ob (a := 7) (c := 0) (by decide) rfl, zK_len (n := 8) (by decide), zK_wP, if_neg (by decide), zK_mk (n := 9) rfl c1, zK_ob (a := 7) (c := 0) (by decide) rfl, zK_len (n := 9) (by decide), zK_wP, hE]
theorem zi_Acts_22 (X : zv_X) {I : zI} {J : zJ} {P : zPP} (hc : zcln 22 I J P) : zg_Acts_init_0 X 22 (zK 23 I J P) = some (none, zK 25 I J (zPm P 22 25)) := by
  have hE : zpu (zpu P 22 0 (some 23)) 22 1 (some 24) = zPm P 22 25 := by
    refine zPm_mk (fun a h1 h2 => ?_) ?_ (fun a ha => ?_)
    · have hq : a = 23 ∨ a = 24 := by omega
      rcases hq with rfl | rfl
      · exact ((hc 23 (by decide)).2.2).trans (zPr0 (by decide) rfl).symm
      · exact ((hc 24 (by decide)).2.2).trans (zPr0 (by decide) rfl).symm
    · rw [zPr (l := [some 23, some 24]) (by decide) rfl]
      have h0 : P 22 = fun _ => none := (hc 22 (by decide)).2.2
      rw [zpu_same, zpu_same, h0]
      funext j
      match j with
      | 0 => rfl
      | 1 => rfl
      | j + 2 => rfl
    · rw [zpu_ne (by omega), zpu_ne (by omega)]
  have c0 : zcln 23 I J P := zcln_le hc (by decide)
  have c1 := zcln_wP (a := 22) (j := 0) (x := some 23) (zcln_le c0 (show 23 ≤ 24 by decide)) (show 22 < 24 by decide)
  rw [zg_Acts_init_0_e, show Int32.toNatClampNeg 20 = 20 from rfl, if_neg (by decide), zK_mk (n := 23) rfl c0, zK_ob (a := 22) (c := 0) (by decide) rfl, zK_len (n := 23) (by decide), zK_wP, if_neg (by decide), zK_mk (n := 24) rfl c1, zK_ob (a := 22) (c := 0) (by decide) rfl, zK_len (n := 24) (by decide), zK_wP, hE]
theorem zi_Side_43 (X : zv_X) {I : zI} {J : zJ} {P : zPP} (hc : zcln 43 I J P) : zg_Side_init_0 X 43 (zK 44 I J P) = some (none, zK 46 I J (zPm P 43 46)) := by
  have hE : zpu (zpu P 43 0 (some 44)) 43 1 (some 45) = zPm P 43 46 := by
    refine zPm_mk (fun a h1 h2 => ?_) ?_ (fun a ha => ?_)
    · have hq : a = 44 ∨ a = 45 := by omega
      rcases hq with rfl | rfl
      · exact ((hc 44 (by decide)).2.2).trans (zPr0 (by decide) rfl).symm
      · exact ((hc 45 (by decide)).2.2).trans (zPr0 (by decide) rfl).symm
    · rw [zPr (l := [some 44, some 45]) (by decide) rfl]
      have h0 : P 43 = fun _ => none := (hc 43 (by decide)).2.2
      rw [zpu_same, zpu_same, h0]
      funext j
      match j with
      | 0 => rfl
      | 1 => rfl
      | j + 2 => rfl
    · rw [zpu_ne (by omega), zpu_ne (by omega)]
  have c0 : zcln 44 I J P := zcln_le hc (by decide)
  have c1 := zcln_wP (a := 43) (j := 0) (x := some 44) (zcln_le c0 (show 44 ≤ 45 by decide)) (show 43 < 45 by decide)
  rw [zg_Side_init_0_e, show Int32.toNatClampNeg 301 = 301 from rfl, if_neg (by decide), zK_mk (n := 44) rfl c0, zK_ob (a := 43) (c := 7) (by decide) rfl, zK_len (n := 44) (by decide), zK_wP, if_neg (by decide), zK_mk (n := 45) rfl c1, zK_ob (a := 43) (c := 7) (by decide) rfl, zK_len (n := 45) (by decide), zK_wP, hE]
theorem zi_Side_46 (X : zv_X) {I : zI} {J : zJ} {P : zPP} (hc : zcln 46 I J P) : zg_Side_init_0 X 46 (zK 47 I J P) = some (none, zK 49 I J (zPm P 46 49)) := by
  have hE : zpu (zpu P 46 0 (some 47)) 46 1 (some 48) = zPm P 46 49 := by
    refine zPm_mk (fun a h1 h2 => ?_) ?_ (fun a ha => ?_)
    · have hq : a = 47 ∨ a = 48 := by omega
      rcases hq with rfl | rfl
      · exact ((hc 47 (by decide)).2.2).trans (zPr0 (by decide) rfl).symm
      · exact ((hc 48 (by decide)).2.2).trans (zPr0 (by decide) rfl).symm
    · rw [zPr (l := [some 47, some 48]) (by decide) rfl]
      have h0 : P 46 = fun _ => none := (hc 46 (by decide)).2.2
      rw [zpu_same, zpu_same, h0]
      funext j
      match j with
      | 0 => rfl
      | 1 => rfl
      | j + 2 => rfl
    · rw [zpu_ne (by omega), zpu_ne (by omega)]
  have c0 : zcln 47 I J P := zcln_le hc (by decide)
  have c1 := zcln_wP (a := 46) (j := 0) (x := some 47) (zcln_le c0 (show 47 ≤ 48 by decide)) (show 46 < 48 by decide)
  rw [zg_Side_init_0_e, show Int32.toNatClampNeg 301 = 301 from rfl, if_neg (by decide), zK_mk (n := 47) rfl c0, zK_ob (a := 46) (c := 7) (by decide) rfl, zK_len (n := 47) (by decide), zK_wP, if_neg (by decide), zK_mk (n := 48) rfl c1, zK_ob (a := 46) (c := 7) (by decide) rfl, zK_len (n := 48) (by decide), zK_wP, hE]
theorem zi_Side_112 (X : zv_X) {I : zI} {J : zJ} {P : zPP} (hc : zcln 112 I J P) : zg_Side_init_0 X 112 (zK 113 I J P) = some (none, zK 115 I J (zPm P 112 115)) := by
  have hE : zpu (zpu P 112 0 (some 113)) 112 1 (some 114) = zPm P 112 115 := by
    refine zPm_mk (fun a h1 h2 => ?_) ?_ (fun a ha => ?_)
    · have hq : a = 113 ∨ a = 114 := by omega
      rcases hq with rfl | rfl
      · exact ((hc 113 (by decide)).2.2).trans (zPr0 (by decide) rfl).symm
      · exact ((hc 114 (by decide)).2.2).trans (zPr0 (by decide) rfl).symm
    · rw [zPr (l := [some 113, some 114]) (by decide) rfl]
      have h0 : P 112 = fun _ => none := (hc 112 (by decide)).2.2
      rw [zpu_same, zpu_same, h0]
      funext j
      match j with
      | 0 => rfl
      | 1 => rfl
      | j + 2 => rfl
    · rw [zpu_ne (by omega), zpu_ne (by omega)]
  have c0 : zcln 113 I J P := zcln_le hc (by decide)
  have c1 := zcln_wP (a := 112) (j := 0) (x := some 113) (zcln_le c0 (show 113 ≤ 114 by decide)) (show 112 < 114 by decide)
  rw [zg_Side_init_0_e, show Int32.toNatClampNeg 301 = 301 from rfl, if_neg (by decide), zK_mk (n := 113) rfl c0, zK_ob (a := 112) (c := 7) (by decide) rfl, zK_len (n := 113) (by decide), zK_wP, if_neg (by decide), zK_mk (n := 114) rfl c1, zK_ob (a := 112) (c := 7) (by decide) rfl, zK_len (n := 114) (by decide), zK_wP, hE]
theorem zi_Side_115 (X : zv_X) {I : zI} {J : zJ} {P : zPP} (hc : zcln 115 I J P) : zg_Side_init_0 X 115 (zK 116 I J P) = some (none, zK 118 I J (zPm P 115 118)) := by
  have hE : zpu (zpu P 115 0 (some 116)) 115 1 (some 117) = zPm P 115 118 := by
    refine zPm_mk (fun a h1 h2 => ?_) ?_ (fun a ha => ?_)
    · have hq : a = 116 ∨ a = 117 := by omega
      rcases hq with rfl | rfl
      · exact ((hc 116 (by decide)).2.2).trans (zPr0 (by decide) rfl).symm
      · exact ((hc 117 (by decide)).2.2).trans (zPr0 (by decide) rfl).symm
    · rw [zPr (l := [some 116, some 117]) (by decide) rfl]
      have h0 : P 115 = fun _ => none := (hc 115 (by decide)).2.2
      rw [zpu_same, zpu_same, h0]
      funext j
      match j with
      | 0 => rfl
      | 1 => rfl
      | j + 2 => rfl
    · rw [zpu_ne (by omega), zpu_ne (by omega)]
  have c0 : zcln 116 I J P := zcln_le hc (by decide)
  have c1 := zcln_wP (a := 115) (j := 0) (x := some 116) (zcln_le c0 (show 116 ≤ 117 by decide)) (show 115 < 117 by decide)
  rw [zg_Side_init_0_e, show Int32.toNatClampNeg 301 = 301 from rfl, if_neg (by decide), zK_mk (n := 116) rfl c0, zK_ob (a := 115) (c := 7) (by decide) rfl, zK_len (n := 116) (by decide), zK_wP, if_neg (by decide), zK_mk (n := 117) rfl c1, zK_ob (a := 115) (c := 7) (by decide) rfl, zK_len (n := 117) (by decide), zK_wP, hE]
theorem zi_Plane_12 (X : zv_X) {I : zI} {J : zJ} {P : zPP} (hc : zcln 12 I J P) : zg_Plane_init_0 X 12 (zK 13 I J P) = some (none, zK 16 I J (zPm P 12 16)) := by
  have hE : zpu (zpu (zpu P 12 0 (some 13)) 12 1 (some 14)) 12 3 (some 15) = zPm P 12 16 := by
    refine zPm_mk (fun a h1 h2 => ?_) ?_ (fun a ha => ?_)
    · have hq : a = 13 ∨ a = 14 ∨ a = 15 := by omega
      rcases hq with rfl | rfl | rfl
      · exact ((hc 13 (by decide)).2.2).trans (zPr0 (by decide) rfl).symm
      · exact ((hc 14 (by decide)).2.2).trans (zPr0 (by decide) rfl).symm
      · exact ((hc 15 (by decide)).2.2).trans (zPr0 (by decide) rfl).symm
    · rw [zPr (l := [some 13, some 14, none, some 15]) (by decide) rfl]
      have h0 : P 12 = fun _ => none := (hc 12 (by decide)).2.2
      rw [zpu_same, zpu_same, zpu_same, h0]
      funext j
      match j with
      | 0 => rfl
      | 1 => rfl
      | 2 => rfl
      | 3 => rfl
      | j + 4 => rfl
    · rw [zpu_ne (by omega), zpu_ne (by omega), zpu_ne (by omega)]
  have c0 : zcln 13 I J P := zcln_le hc (by decide)
  have c1 := zcln_wP (a := 12) (j := 0) (x := some 13) (zcln_le c0 (show 13 ≤ 14 by decide)) (show 12 < 14 by decide)
  have c2 := zcln_wP (a := 12) (j := 1) (x := some 14) (zcln_le c1 (show 14 ≤ 15 by decide)) (show 12 < 15 by decide)
  rw [zg_Plane_init_0_e, show Int32.toNatClampNeg 100 = 100 from rfl, show Int32.toNatClampNeg 32 = 32 from rfl, if_neg (by decide), zK_mk (n := 13) rfl c0, zK_ob (a := 12) (c := 6) (by decide) rfl, zK_len (n := 13) (by decide), zK_wP, if_neg (by decide), zK_mk (n := 14) rfl c1, zK_ob (a := 12) (c := 6) (by decide) rfl, zK_len (n := 14) (by decide), zK_wP, if_neg (by decide), zK_mk (n := 15) rfl c2, zK_ob (a := 12) (c := 6) (by decide) rfl, zK_len (n := 15) (by decide), zK_wP, hE]
theorem zi_Plane_27 (X : zv_X) {I : zI} {J : zJ} {P : zPP} (hc : zcln 27 I J P) : zg_Plane_init_0 X 27 (zK 28 I J P) = some (none, zK 31 I J (zPm P 27 31)) := by
  have hE : zpu (zpu (zpu P 27 0 (some 28)) 27 1 (some 29)) 27 3 (some 30) = zPm P 27 31 := by
    refine zPm_mk (fun a h1 h2 => ?_) ?_ (fun a ha => ?_)
    · have hq : a = 28 ∨ a = 29 ∨ a = 30 := by omega
      rcases hq with rfl | rfl | rfl
      · exact ((hc 28 (by decide)).2.2).trans (zPr0 (by decide) rfl).symm
      · exact ((hc 29 (by decide)).2.2).trans (zPr0 (by decide) rfl).symm
      · exact ((hc 30 (by decide)).2.2).trans (zPr0 (by decide) rfl).symm
    · rw [zPr (l := [some 28, some 29, none, some 30]) (by decide) rfl]
      have h0 : P 27 = fun _ => none := (hc 27 (by decide)).2.2
      rw [zpu_same, zpu_same, zpu_same, h0]
      funext j
      match j with
      | 0 => rfl
      | 1 => rfl
      | 2 => rfl
      | 3 => rfl
      | j + 4 => rfl
    · rw [zpu_ne (by omega), zpu_ne (by omega), zpu_ne (by omega)]
  have c0 : zcln 28 I J P := zcln_le hc (by decide)
  have c1 := zcln_wP (a := 27) (j := 0) (x := some 28) (zcln_le c0 (show 28 ≤ 29 by decide)) (show 27 < 29 by decide)
  have c2 := zcln_wP (a := 27) (j := 1) (x := some 29) (zcln_le c1 (show 29 ≤ 30 by decide)) (show 27 < 30 by decide)
  rw [zg_Plane_init_0_e, show Int32.toNatClampNeg 100 = 100 from rfl, show Int32.toNatClampNeg 32 = 32 from rfl, if_neg (by decide), zK_mk (n := 28) rfl c0, zK_ob (a := 27) (c := 6) (by decide) rfl, zK_len (n := 28) (by decide), zK_wP, if_neg (by decide), zK_mk (n := 29) rfl c1, zK_ob (a := 27) (c := 6) (by decide) rfl, zK_len (n := 29) (by decide), zK_wP, if_neg (by decide), zK_mk (n := 30) rfl c2, zK_ob (a := 27) (c := 6) (by decide) rfl, zK_len (n := 30) (by decide), zK_wP, hE]
theorem zi_fill_11 (X : zv_X) {J : zJ} {P : zPP} : ∀ (m k : Nat) (I : zI), k + m = 64 → ∃ I', zg_Arrays_fill_5 X 11 (-1000000001) (Int32.ofNat k) (Int32.ofNat 64) (zK 12 I J P) = some (none, zK 12 I' J P) ∧ (∀ c, c ≠ 11 → I' c = I c) ∧ ∀ i, I' 11 i = if k ≤ i ∧ i < 64 then -1000000001 else I 11 i := by
  intro m
  induction m with
  | zero =>
    intro k I hk
    have : k = 64 := by omega
    subst this
    refine ⟨I, ?_, fun _ _ => rfl, fun i => by rw [if_neg (by omega)]⟩
    rw [zg_Arrays_fill_5_e, if_pos (by decide), zg_Arrays_fill_20_e]
  | succ m ih =>
    intro k I hk
    obtain ⟨I', q1, q2, q3⟩ := ih (k + 1) (zst I 11 k (-1000000001)) (by omega)
    refine ⟨I', ?_, fun c hc => by rw [q2 c hc, zst_ne hc], fun i => ?_⟩
    · rw [zg_Arrays_fill_5_e, if_neg (fun q => absurd ((zn_le (by omega) (by omega)).mp q) (by omega)), zK_ix (a := 11) (m := 64) (by decide) rfl (by omega) (by decide), zK_wI, zn_add1, q1]
    · rw [q3 i]
      by_cases c : i = k
      · rw [if_neg (by omega), c, zst_self, if_pos (by omega)]
      · rw [zst_off c]
        by_cases d : k + 1 ≤ i ∧ i < 64
        · rw [if_pos d, if_pos (by omega)]
        · rw [if_neg d, if_neg (by omega)]
theorem zi_Gaps_10 (X : zv_X) {I : zI} {J : zJ} {P : zPP} (hc : zcln 10 I J P) : ∃ I', zg_Gaps_init_0 X 10 (zK 11 I J P) = some (none, zK 12 I' J (zPm P 10 12)) ∧ (∀ c, c ≠ 11 → I' c = I c) ∧ ∀ i, i < 64 → I' 11 i = -1000000001 := by
  have hE : zpu P 10 0 (some 11) = zPm P 10 12 := by
    refine zPm_mk (fun a h1 h2 => ?_) ?_ (fun a ha => ?_)
    · have hq : a = 11 := by omega
      rcases hq with rfl
      · exact ((hc 11 (by decide)).2.2).trans (zPr0 (by decide) rfl).symm
    · rw [zPr (l := [some 11]) (by decide) rfl]
      have h0 : P 10 = fun _ => none := (hc 10 (by decide)).2.2
      rw [zpu_same, h0]
      funext j
      match j with
      | 0 => rfl
      | j + 1 => rfl
    · rw [zpu_ne (by omega)]
  have c0 : zcln 11 I J P := zcln_le hc (by decide)
  obtain ⟨I', q1, q2, q3⟩ := zi_fill_11 X (J := J) (P := zPm P 10 12) 64 0 I (by decide)
  refine ⟨I', ?_, q2, fun i hi => by rw [q3 i, if_pos ⟨Nat.zero_le _, hi⟩]⟩
  have q1' : zg_Arrays_fill_5 X 11 (-1000000001) 0 (Int32.ofNat 64) (zK 12 I J (zPm P 10 12)) = _ := q1
  have hp : zPm P 10 12 10 0 = some 11 := rfl
  rw [zg_Gaps_init_0_e, show Int32.toNatClampNeg 64 = 64 from rfl, if_neg (by decide), zK_mk (n := 11) rfl c0, zK_ob (a := 10) (c := 3) (by decide) rfl, zK_len (n := 11) (by decide), zK_wP, hE, zK_ob (a := 10) (c := 3) (by decide) rfl, zK_P, hp, zrf, zg_Arrays_fill_0_e, zK_ll (a := 11) (t := 0) (m := 64) (by decide) rfl (by decide), q1', zcv]
theorem zi_fill_26 (X : zv_X) {J : zJ} {P : zPP} : ∀ (m k : Nat) (I : zI), k + m = 64 → ∃ I', zg_Arrays_fill_5 X 26 (-1000000001) (Int32.ofNat k) (Int32.ofNat 64) (zK 27 I J P) = some (none, zK 27 I' J P) ∧ (∀ c, c ≠ 26 → I' c = I c) ∧ ∀ i, I' 26 i = if k ≤ i ∧ i < 64 then -1000000001 else I 26 i := by
  intro m
  induction m with
  | zero =>
    intro k I hk
    have : k = 64 := by omega
    subst this
    refine ⟨I, ?_, fun _ _ => rfl, fun i => by rw [if_neg (by omega)]⟩
    rw [zg_Arrays_fill_5_e, if_pos (by decide), zg_Arrays_fill_20_e]
  | succ m ih =>
    intro k I hk
    obtain ⟨I', q1, q2, q3⟩ := ih (k + 1) (zst I 26 k (-1000000001)) (by omega)
    refine ⟨I', ?_, fun c hc => by rw [q2 c hc, zst_ne hc], fun i => ?_⟩
    · rw [zg_Arrays_fill_5_e, if_neg (fun q => absurd ((zn_le (by omega) (by omega)).mp q) (by omega)), zK_ix (a := 26) (m := 64) (by decide) rfl (by omega) (by decide), zK_wI, zn_add1, q1]
    · rw [q3 i]
      by_cases c : i = k
      · rw [if_neg (by omega), c, zst_self, if_pos (by omega)]
      · rw [zst_off c]
        by_cases d : k + 1 ≤ i ∧ i < 64
        · rw [if_pos d, if_pos (by omega)]
        · rw [if_neg d, if_neg (by omega)]
theorem zi_Gaps_25 (X : zv_X) {I : zI} {J : zJ} {P : zPP} (hc : zcln 25 I J P) : ∃ I', zg_Gaps_init_0 X 25 (zK 26 I J P) = some (none, zK 27 I' J (zPm P 25 27)) ∧ (∀ c, c ≠ 26 → I' c = I c) ∧ ∀ i, i < 64 → I' 26 i = -1000000001 := by
  have hE : zpu P 25 0 (some 26) = zPm P 25 27 := by
    refine zPm_mk (fun a h1 h2 => ?_) ?_ (fun a ha => ?_)
    · have hq : a = 26 := by omega
      rcases hq with rfl
      · exact ((hc 26 (by decide)).2.2).trans (zPr0 (by decide) rfl).symm
    · rw [zPr (l := [some 26]) (by decide) rfl]
      have h0 : P 25 = fun _ => none := (hc 25 (by decide)).2.2
      rw [zpu_same, h0]
      funext j
      match j with
      | 0 => rfl
      | j + 1 => rfl
    · rw [zpu_ne (by omega)]
  have c0 : zcln 26 I J P := zcln_le hc (by decide)
  obtain ⟨I', q1, q2, q3⟩ := zi_fill_26 X (J := J) (P := zPm P 25 27) 64 0 I (by decide)
  refine ⟨I', ?_, q2, fun i hi => by rw [q3 i, if_pos ⟨Nat.zero_le _, hi⟩]⟩
  have q1' : zg_Arrays_fill_5 X 26 (-1000000001) 0 (Int32.ofNat 64) (zK 27 I J (zPm P 25 27)) = _ := q1
  have hp : zPm P 25 27 25 0 = some 26 := rfl
  rw [zg_Gaps_init_0_e, show Int32.toNatClampNeg 64 = 64 from rfl, if_neg (by decide), zK_mk (n := 26) rfl c0, zK_ob (a := 25) (c := 3) (by decide) rfl, zK_len (n := 26) (by decide), zK_wP, hE, zK_ob (a := 25) (c := 3) (by decide) rfl, zK_P, hp, zrf, zg_Arrays_fill_0_e, zK_ll (a := 26) (t := 0) (m := 64) (by decide) rfl (by decide), q1', zcv]
theorem zi_State_1 (X : zv_X) {I : zI} {J : zJ} {P : zPP} (hc : zcln 1 I J P) : ∃ I', zg_State_init_0 X 1 (zK 2 I J P) = some (none, zK 16 I' J (zPm P 1 16)) ∧ (∀ c, c ≠ 6 → c ≠ 11 → I' c = I c) ∧ I' 6 = (zv_old X 1).2 ∧ ∀ i, i < 64 → I' 11 i = -1000000001 := by
  have hE : zpu (zPm (zpu (zPm (zpu (zPm (zpu (zpu (zpu (zPm P 2 5) 1 0 (some 2)) 1 1 (some 5)) 1 3 (some 6)) 7 10) 1 5 (some 7)) 10 12) 1 6 (some 10)) 12 16) 1 7 (some 12) = zPm P 1 16 := by
    refine zPm_mk (fun a h1 h2 => ?_) ?_ (fun a ha => ?_)
    · have hq : a = 2 ∨ a = 3 ∨ a = 4 ∨ a = 5 ∨ a = 6 ∨ a = 7 ∨ a = 8 ∨ a = 9 ∨ a = 10 ∨ a = 11 ∨ a = 12 ∨ a = 13 ∨ a = 14 ∨ a = 15 := by omega
      rcases hq with rfl | rfl | rfl | rfl | rfl | rfl | rfl | rfl | rfl | rfl | rfl | rfl | rfl | rfl
      · exact rfl
      · exact rfl
      · exact rfl
      · exact ((hc 5 (by decide)).2.2).trans (zPr0 (by decide) rfl).symm
      · exact ((hc 6 (by decide)).2.2).trans (zPr0 (by decide) rfl).symm
      · exact rfl
      · exact rfl
      · exact rfl
      · exact rfl
      · exact rfl
      · exact rfl
      · exact rfl
      · exact rfl
      · exact rfl
    · rw [zPr (l := [some 2, some 5, none, some 6, none, some 7, some 10, some 12]) (by decide) rfl]
      have h0 : P 1 = fun _ => none := (hc 1 (by decide)).2.2
      rw [zpu_same, zPm_out (by decide), zpu_same, zPm_out (by decide), zpu_same, zPm_out (by decide), zpu_same, zpu_same, zpu_same, zPm_out (by decide), h0]
      funext j
      match j with
      | 0 => rfl
      | 1 => rfl
      | 2 => rfl
      | 3 => rfl
      | 4 => rfl
      | 5 => rfl
      | 6 => rfl
      | 7 => rfl
      | j + 8 => rfl
    · rw [zpu_ne (by omega), zPm_out (by omega), zpu_ne (by omega), zPm_out (by omega), zpu_ne (by omega), zPm_out (by omega), zpu_ne (by omega), zpu_ne (by omega), zpu_ne (by omega), zPm_out (by omega)]
  have c1 : zcln 2 I J P := zcln_le hc (by decide)
  have c2 : zcln 5 I J (zPm P 2 5) := zcln_Pm c1 (by decide)
  have c3 : zcln 5 I J (zpu (zPm P 2 5) 1 0 (some 2)) := zcln_wP c2 (by decide)
  have c4 : zcln 6 I J (zpu (zpu (zPm P 2 5) 1 0 (some 2)) 1 1 (some 5)) := zcln_wP (zcln_le c3 (by decide)) (by decide)
  have c5 : zcln 7 (va_up I 6 (zv_old X 1).2) J (zpu (zpu (zpu (zPm P 2 5) 1 0 (some 2)) 1 1 (some 5)) 1 3 (some 6)) := zcln_wP (zcln_I (zcln_le c4 (by decide)) (by decide)) (by decide)
  have c6 : zcln 10 (va_up I 6 (zv_old X 1).2) J (zpu (zPm (zpu (zpu (zpu (zPm P 2 5) 1 0 (some 2)) 1 1 (some 5)) 1 3 (some 6)) 7 10) 1 5 (some 7)) := zcln_wP (zcln_Pm c5 (by decide)) (by decide)
  obtain ⟨I', g1, g2, g3⟩ := zi_Gaps_10 X c6
  have c7 : zcln 12 I' J (zPm (zpu (zPm (zpu (zpu (zpu (zPm P 2 5) 1 0 (some 2)) 1 1 (some 5)) 1 3 (some 6)) 7 10) 1 5 (some 7)) 10 12) := fun a ha => by
    have := zcln_Pm (o := 10) c6 (show 10 ≤ 12 by decide) a ha
    exact ⟨by rw [g2 a (by omega)]; exact this.1, this.2⟩
  have c8 : zcln 12 I' J (zpu (zPm (zpu (zPm (zpu (zpu (zpu (zPm P 2 5) 1 0 (some 2)) 1 1 (some 5)) 1 3 (some 6)) 7 10) 1 5 (some 7)) 10 12) 1 6 (some 10)) := zcln_wP c7 (by decide)
  refine ⟨I', ?_, fun c h1 h2 => by rw [g2 c h2, zup_ne h1], by rw [g2 6 (by decide), zup_same], g3⟩
  rw [zg_State_init_0_e, show Int32.toNatClampNeg 300 = 300 from rfl, zK_mk (n := 2) rfl c1, zK_len (n := 2) (by decide), zK_ob (a := 2) (c := 4) (by decide) rfl, zi_Keys_2 X c1, zcv, zK_ob (a := 1) (c := 9) (by decide) rfl, if_neg (by decide), zK_wP, zK_mk (n := 5) rfl c3, zK_ob (a := 1) (c := 9) (by decide) rfl, zK_len (n := 5) (by decide), zK_wP, zK_mk (n := 6) rfl c4, zK_len (n := 6) (by decide), zK_wA, zK_cc (a := 6) (m := 8) (by decide) rfl, zK_ob (a := 1) (c := 9) (by decide) rfl, zK_wP, zK_mk (n := 7) rfl c5, zK_len (n := 7) (by decide), zK_ob (a := 7) (c := 0) (by decide) rfl, zi_Acts_7 X c5, zcv, zK_ob (a := 1) (c := 9) (by decide) rfl, zK_wP, zK_mk (n := 10) rfl c6, zK_len (n := 10) (by decide), zK_ob (a := 10) (c := 3) (by decide) rfl, g1, zcv, zK_ob (a := 1) (c := 9) (by decide) rfl, zK_wP, zK_mk (n := 12) rfl c8, zK_len (n := 12) (by decide), zK_ob (a := 12) (c := 6) (by decide) rfl, zi_Plane_12 X c8, zcv, zK_ob (a := 1) (c := 9) (by decide) rfl, zK_wP, hE]
theorem zi_State_16 (X : zv_X) {I : zI} {J : zJ} {P : zPP} (hc : zcln 16 I J P) : ∃ I', zg_State_init_0 X 16 (zK 17 I J P) = some (none, zK 31 I' J (zPm P 16 31)) ∧ (∀ c, c ≠ 21 → c ≠ 26 → I' c = I c) ∧ I' 21 = (zv_old X 1).2 ∧ ∀ i, i < 64 → I' 26 i = -1000000001 := by
  have hE : zpu (zPm (zpu (zPm (zpu (zPm (zpu (zpu (zpu (zPm P 17 20) 16 0 (some 17)) 16 1 (some 20)) 16 3 (some 21)) 22 25) 16 5 (some 22)) 25 27) 16 6 (some 25)) 27 31) 16 7 (some 27) = zPm P 16 31 := by
    refine zPm_mk (fun a h1 h2 => ?_) ?_ (fun a ha => ?_)
    · have hq : a = 17 ∨ a = 18 ∨ a = 19 ∨ a = 20 ∨ a = 21 ∨ a = 22 ∨ a = 23 ∨ a = 24 ∨ a = 25 ∨ a = 26 ∨ a = 27 ∨ a = 28 ∨ a = 29 ∨ a = 30 := by omega
      rcases hq with rfl | rfl | rfl | rfl | rfl | rfl | rfl | rfl | rfl | rfl | rfl | rfl | rfl | rfl
      · exact rfl
      · exact rfl
      · exact rfl
      · exact ((hc 20 (by decide)).2.2).trans (zPr0 (by decide) rfl).symm
      · exact ((hc 21 (by decide)).2.2).trans (zPr0 (by decide) rfl).symm
      · exact rfl
      · exact rfl
      · exact rfl
      · exact rfl
      · exact rfl
      · exact rfl
      · exact rfl
      · exact rfl
      · exact rfl
    · rw [zPr (l := [some 17, some 20, none, some 21, none, some 22, some 25, some 27]) (by decide) rfl]
      have h0 : P 16 = fun _ => none := (hc 16 (by decide)).2.2
      rw [zpu_same, zPm_out (by decide), zpu_same, zPm_out (by decide), zpu_same, zPm_out (by decide), zpu_same, zpu_same, zpu_same, zPm_out (by decide), h0]
      funext j
      match j with
      | 0 => rfl
      | 1 => rfl
      | 2 => rfl
      | 3 => rfl
      | 4 => rfl
      | 5 => rfl
      | 6 => rfl
      | 7 => rfl
      | j + 8 => rfl
    · rw [zpu_ne (by omega), zPm_out (by omega), zpu_ne (by omega), zPm_out (by omega), zpu_ne (by omega), zPm_out (by omega), zpu_ne (by omega), zpu_ne (by omega), zpu_ne (by omega), zPm_out (by omega)]
  have c1 : zcln 17 I J P := zcln_le hc (by decide)
  have c2 : zcln 20 I J (zPm P 17 20) := zcln_Pm c1 (by decide)
  have c3 : zcln 20 I J (zpu (zPm P 17 20) 16 0 (some 17)) := zcln_wP c2 (by decide)
  have c4 : zcln 21 I J (zpu (zpu (zPm P 17 20) 16 0 (some 17)) 16 1 (some 20)) := zcln_wP (zcln_le c3 (by decide)) (by decide)
  have c5 : zcln 22 (va_up I 21 (zv_old X 1).2) J (zpu (zpu (zpu (zPm P 17 20) 16 0 (some 17)) 16 1 (some 20)) 16 3 (some 21)) := zcln_wP (zcln_I (zcln_le c4 (by decide)) (by decide)) (by decide)
  have c6 : zcln 25 (va_up I 21 (zv_old X 1).2) J (zpu (zPm (zpu (zpu (zpu (zPm P 17 20) 16 0 (some 17)) 16 1 (some 20)) 16 3 (some 21)) 22 25) 16 5 (some 22)) := zcln_wP (zcln_Pm c5 (by decide)) (by decide)
  obtain ⟨I', g1, g2, g3⟩ := zi_Gaps_25 X c6
  have c7 : zcln 27 I' J (zPm (zpu (zPm (zpu (zpu (zpu (zPm P 17 20) 16 0 (some 17)) 16 1 (some 20)) 16 3 (some 21)) 22 25) 16 5 (some 22)) 25 27) := fun a ha => by
    have := zcln_Pm (o := 25) c6 (show 25 ≤ 27 by decide) a ha
    exact ⟨by rw [g2 a (by omega)]; exact this.1, this.2⟩
  have c8 : zcln 27 I' J (zpu (zPm (zpu (zPm (zpu (zpu (zpu (zPm P 17 20) 16 0 (some 17)) 16 1 (some 20)) 16 3 (some 21)) 22 25) 16 5 (some 22)) 25 27) 16 6 (some 25)) := zcln_wP c7 (by decide)
  refine ⟨I', ?_, fun c h1 h2 => by rw [g2 c h2, zup_ne h1], by rw [g2 21 (by decide), zup_same], g3⟩
  rw [zg_State_init_0_e, show Int32.toNatClampNeg 300 = 300 from rfl, zK_mk (n := 17) rfl c1, zK_len (n := 17) (by decide), zK_ob (a := 17) (c := 4) (by decide) rfl, zi_Keys_17 X c1, zcv, zK_ob (a := 16) (c := 9) (by decide) rfl, if_neg (by decide), zK_wP, zK_mk (n := 20) rfl c3, zK_ob (a := 16) (c := 9) (by decide) rfl, zK_len (n := 20) (by decide), zK_wP, zK_mk (n := 21) rfl c4, zK_len (n := 21) (by decide), zK_wA, zK_cc (a := 21) (m := 8) (by decide) rfl, zK_ob (a := 16) (c := 9) (by decide) rfl, zK_wP, zK_mk (n := 22) rfl c5, zK_len (n := 22) (by decide), zK_ob (a := 22) (c := 0) (by decide) rfl, zi_Acts_22 X c5, zcv, zK_ob (a := 16) (c := 9) (by decide) rfl, zK_wP, zK_mk (n := 25) rfl c6, zK_len (n := 25) (by decide), zK_ob (a := 25) (c := 3) (by decide) rfl, g1, zcv, zK_ob (a := 16) (c := 9) (by decide) rfl, zK_wP, zK_mk (n := 27) rfl c8, zK_len (n := 27) (by decide), zK_ob (a := 27) (c := 6) (by decide) rfl, zi_Plane_27 X c8, zcv, zK_ob (a := 16) (c := 9) (by decide) rfl, zK_wP, hE]
theorem zi_Fit_42 (X : zv_X) {I : zI} {J : zJ} {P : zPP} (hc : zcln 42 I J P) : zg_Fit_init_0 X 42 (zK 43 I J P) = some (none, zK 49 I J (zPm P 42 49)) := by
  have hE : zpu (zPm (zpu (zPm P 43 46) 42 0 (some 43)) 46 49) 42 1 (some 46) = zPm P 42 49 := by
    refine zPm_mk (fun a h1 h2 => ?_) ?_ (fun a ha => ?_)
    · skip
      rcases Nat.lt_or_ge a 46 with g | g
      · skip
        rw [zpu_ne (by omega), zPm_out (by omega), zpu_ne (by omega), zPm_in (by omega)]
      · skip
        rw [zpu_ne (by omega), zPm_in (by omega)]
    · skip
      rw [zPr (l := [some 43, some 46]) (by decide) rfl]
      rw [zpu_same, zPm_out (by decide), zpu_same, zPm_out (by decide), (hc 42 (by decide)).2.2]
      funext j
      match j with
      | 0 => rfl
      | 1 => rfl
      | j + 2 => rfl
    · rw [zpu_ne (by omega), zPm_out (by omega), zpu_ne (by omega), zPm_out (by omega)]
  have c0 : zcln 43 I J P := zcln_le hc (by decide)
  have c1 : zcln 46 I J (zPm P 43 46) := zcln_Pm c0 (by decide)
  have c2 : zcln 46 I J (zpu (zPm P 43 46) 42 0 (some 43)) := zcln_wP c1 (by decide)
  have c3 : zcln 49 I J (zPm (zpu (zPm P 43 46) 42 0 (some 43)) 46 49) := zcln_Pm c2 (by decide)
  have c4 : zcln 49 I J (zpu (zPm (zpu (zPm P 43 46) 42 0 (some 43)) 46 49) 42 1 (some 46)) := zcln_wP c3 (by decide)
  rw [zg_Fit_init_0_e, zK_mk (n := 43) rfl c0, zK_len (n := 43) (by decide), zK_ob (a := 43) (c := 7) (by decide) rfl, zi_Side_43 X c0, zcv, zK_ob (a := 42) (c := 2) (by decide) rfl, zK_wP, zK_mk (n := 46) rfl c2, zK_len (n := 46) (by decide), zK_ob (a := 46) (c := 7) (by decide) rfl, zi_Side_46 X c2, zcv, zK_ob (a := 42) (c := 2) (by decide) rfl, zK_wP, hE]
theorem zi_Level_49 (X : zv_X) {I : zI} {J : zJ} {P : zPP} (hc : zcln 49 I J P) : zg_Level_init_0 X 49 302 (zK 50 I J P) = some (none, zK 55 I J (zPm P 49 55)) := by
  have hE : zpu (zpu (zpu (zpu (zpu P 49 0 (some 50)) 49 4 (some 51)) 49 5 (some 52)) 49 6 (some 53)) 49 7 (some 54) = zPm P 49 55 := by
    refine zPm_mk (fun a h1 h2 => ?_) ?_ (fun a ha => ?_)
    · skip
      rcases Nat.lt_or_ge a 51 with g | g
      · skip
        have e : a = 50 := by omega
        subst e
        rw [zpu_ne (by decide), zpu_ne (by decide), zpu_ne (by decide), zpu_ne (by decide), zpu_ne (by decide), (hc 50 (by decide)).2.2]
        exact (zPr0 (by decide) rfl).symm
      · skip
        rcases Nat.lt_or_ge a 52 with g | g
        · skip
          have e : a = 51 := by omega
          subst e
          rw [zpu_ne (by decide), zpu_ne (by decide), zpu_ne (by decide), zpu_ne (by decide), zpu_ne (by decide), (hc 51 (by decide)).2.2]
          exact (zPr0 (by decide) rfl).symm
        · skip
          rcases Nat.lt_or_ge a 53 with g | g
          · skip
            have e : a = 52 := by omega
            subst e
            rw [zpu_ne (by decide), zpu_ne (by decide), zpu_ne (by decide), zpu_ne (by decide), zpu_ne (by decide), (hc 52 (by decide)).2.2]
            exact (zPr0 (by decide) rfl).symm
          · skip
            rcases Nat.lt_or_ge a 54 with g | g
            · skip
              have e : a = 53 := by omega
              subst e
              rw [zpu_ne (by decide), zpu_ne (by decide), zpu_ne (by decide), zpu_ne (by decide), zpu_ne (by decide), (hc 53 (by decide)).2.2]
              exact (zPr0 (by decide) rfl).symm
            · skip
              have e : a = 54 := by omega
              subst e
              rw [zpu_ne (by decide), zpu_ne (by decide), zpu_ne (by decide), zpu_ne (by decide), zpu_ne (by decide), (hc 54 (by decide)).2.2]
              exact (zPr0 (by decide) rfl).symm
    · skip
      rw [zPr (l := [some 50, none, none, none, some 51, some 52, some 53, some 54]) (by decide) rfl]
      rw [zpu_same, zpu_same, zpu_same, zpu_same, zpu_same, (hc 49 (by decide)).2.2]
      funext j
      match j with
      | 0 => rfl
      | 1 => rfl
      | 2 => rfl
      | 3 => rfl
      | 4 => rfl
      | 5 => rfl
      | 6 => rfl
      | 7 => rfl
      | j + 8 => rfl
    · rw [zpu_ne (by omega), zpu_ne (by omega), zpu_ne (by omega), zpu_ne (by omega), zpu_ne (by omega)]
  have c0 : zcln 50 I J P := zcln_le hc (by decide)
  have c1 : zcln 51 I J (zpu P 49 0 (some 50)) := zcln_wP (zcln_le c0 (by decide)) (by decide)
  have c2 : zcln 52 I J (zpu (zpu P 49 0 (some 50)) 49 4 (some 51)) := zcln_wP (zcln_le c1 (by decide)) (by decide)
  have c3 : zcln 53 I J (zpu (zpu (zpu P 49 0 (some 50)) 49 4 (some 51)) 49 5 (some 52)) := zcln_wP (zcln_le c2 (by decide)) (by decide)
  have c4 : zcln 54 I J (zpu (zpu (zpu (zpu P 49 0 (some 50)) 49 4 (some 51)) 49 5 (some 52)) 49 6 (some 53)) := zcln_wP (zcln_le c3 (by decide)) (by decide)
  have c5 : zcln 55 I J (zpu (zpu (zpu (zpu (zpu P 49 0 (some 50)) 49 4 (some 51)) 49 5 (some 52)) 49 6 (some 53)) 49 7 (some 54)) := zcln_wP (zcln_le c4 (by decide)) (by decide)
  rw [zg_Level_init_0_e, show (302 : Int32) / 2 + 1 = 152 from by decide, show Int32.toNatClampNeg 302 = 302 from rfl, show Int32.toNatClampNeg 152 = 152 from rfl, if_neg (by decide), zK_mk (n := 50) rfl c0, zK_ob (a := 49) (c := 5) (by decide) rfl, zK_len (n := 50) (by decide), zK_wP, if_neg (by decide), if_neg (by decide), zK_mk (n := 51) rfl c1, zK_ob (a := 49) (c := 5) (by decide) rfl, zK_len (n := 51) (by decide), zK_wP, if_neg (by decide), zK_mk (n := 52) rfl c2, zK_ob (a := 49) (c := 5) (by decide) rfl, zK_len (n := 52) (by decide), zK_wP, if_neg (by decide), zK_mk (n := 53) rfl c3, zK_ob (a := 49) (c := 5) (by decide) rfl, zK_len (n := 53) (by decide), zK_wP, if_neg (by decide), zK_mk (n := 54) rfl c4, zK_ob (a := 49) (c := 5) (by decide) rfl, zK_len (n := 54) (by decide), zK_wP, hE]
theorem zi_Cv_49 (X : zv_X) {I : zI} {J : zJ} {P : zPP} (hc : zcln 49 I J P) (hp : P 40 0 = some 41) : zg_Cover_init_26 X 40 0 (zK 49 I J P) = zg_Cover_init_26 X 40 1 (zK 55 I J (zpu (zPm P 49 55) 41 0 (some 49))) := by
  have hx := fun (I : zI) (J : zJ) (P : zPP) (k : Nat → Option zv_R) => (show zv_ix (zK 55 I J P) 4 41 (0 : Int32) k = k 0 from zK_ix (n := 55) (a := 41) (t := 4) (m := 10) (j := 0) (by decide) rfl (by decide) (by decide))
  rw [zg_Cover_init_26_e, if_neg (by decide), zK_ob (a := 40) (c := 1) (by decide) rfl, zK_P, hp, zrf, zK_mk (n := 49) rfl hc, zK_len (n := 49) (by decide), zK_ob (a := 49) (c := 5) (by decide) rfl, show (300 >>> ((0 : Int32) &&& 31)) + 2 = (302 : Int32) from by decide, zi_Level_49 X hc, zcv, hx, zK_ob (a := 49) (c := 5) (by decide) rfl, zK_wP, show (0 : Int32) + 1 = 1 from by decide]
theorem zi_Level_55 (X : zv_X) {I : zI} {J : zJ} {P : zPP} (hc : zcln 55 I J P) : zg_Level_init_0 X 55 152 (zK 56 I J P) = some (none, zK 61 I J (zPm P 55 61)) := by
  have hE : zpu (zpu (zpu (zpu (zpu P 55 0 (some 56)) 55 4 (some 57)) 55 5 (some 58)) 55 6 (some 59)) 55 7 (some 60) = zPm P 55 61 := by
    refine zPm_mk (fun a h1 h2 => ?_) ?_ (fun a ha => ?_)
    · skip
      rcases Nat.lt_or_ge a 57 with g | g
      · skip
        have e : a = 56 := by omega
        subst e
        rw [zpu_ne (by decide), zpu_ne (by decide), zpu_ne (by decide), zpu_ne (by decide), zpu_ne (by decide), (hc 56 (by decide)).2.2]
        exact (zPr0 (by decide) rfl).symm
      · skip
        rcases Nat.lt_or_ge a 58 with g | g
        · skip
          have e : a = 57 := by omega
          subst e
          rw [zpu_ne (by decide), zpu_ne (by decide), zpu_ne (by decide), zpu_ne (by decide), zpu_ne (by decide), (hc 57 (by decide)).2.2]
          exact (zPr0 (by decide) rfl).symm
        · skip
          rcases Nat.lt_or_ge a 59 with g | g
          · skip
            have e : a = 58 := by omega
            subst e
            rw [zpu_ne (by decide), zpu_ne (by decide), zpu_ne (by decide), zpu_ne (by decide), zpu_ne (by decide), (hc 58 (by decide)).2.2]
            exact (zPr0 (by decide) rfl).symm
          · skip
            rcases Nat.lt_or_ge a 60 with g | g
            · skip
              have e : a = 59 := by omega
              subst e
              rw [zpu_ne (by decide), zpu_ne (by decide), zpu_ne (by decide), zpu_ne (by decide), zpu_ne (by decide), (hc 59 (by decide)).2.2]
              exact (zPr0 (by decide) rfl).symm
            · skip
              have e : a = 60 := by omega
              subst e
              rw [zpu_ne (by decide), zpu_ne (by decide), zpu_ne (by decide), zpu_ne (by decide), zpu_ne (by decide), (hc 60 (by decide)).2.2]
              exact (zPr0 (by decide) rfl).symm
    · skip
      rw [zPr (l := [some 56, none, none, none, some 57, some 58, some 59, some 60]) (by decide) rfl]
      rw [zpu_same, zpu_same, zpu_same, zpu_same, zpu_same, (hc 55 (by decide)).2.2]
      funext j
      match j with
      | 0 => rfl
      | 1 => rfl
      | 2 => rfl
      | 3 => rfl
      | 4 => rfl
      | 5 => rfl
      | 6 => rfl
      | 7 => rfl
      | j + 8 => rfl
    · rw [zpu_ne (by omega), zpu_ne (by omega), zpu_ne (by omega), zpu_ne (by omega), zpu_ne (by omega)]
  have c0 : zcln 56 I J P := zcln_le hc (by decide)
  have c1 : zcln 57 I J (zpu P 55 0 (some 56)) := zcln_wP (zcln_le c0 (by decide)) (by decide)
  have c2 : zcln 58 I J (zpu (zpu P 55 0 (some 56)) 55 4 (some 57)) := zcln_wP (zcln_le c1 (by decide)) (by decide)
  have c3 : zcln 59 I J (zpu (zpu (zpu P 55 0 (some 56)) 55 4 (some 57)) 55 5 (some 58)) := zcln_wP (zcln_le c2 (by decide)) (by decide)
  have c4 : zcln 60 I J (zpu (zpu (zpu (zpu P 55 0 (some 56)) 55 4 (some 57)) 55 5 (some 58)) 55 6 (some 59)) := zcln_wP (zcln_le c3 (by decide)) (by decide)
  have c5 : zcln 61 I J (zpu (zpu (zpu (zpu (zpu P 55 0 (some 56)) 55 4 (some 57)) 55 5 (some 58)) 55 6 (some 59)) 55 7 (some 60)) := zcln_wP (zcln_le c4 (by decide)) (by decide)
  rw [zg_Level_init_0_e, show (152 : Int32) / 2 + 1 = 77 from by decide, show Int32.toNatClampNeg 152 = 152 from rfl, show Int32.toNatClampNeg 77 = 77 from rfl, if_neg (by decide), zK_mk (n := 56) rfl c0, zK_ob (a := 55) (c := 5) (by decide) rfl, zK_len (n := 56) (by decide), zK_wP, if_neg (by decide), if_neg (by decide), zK_mk (n := 57) rfl c1, zK_ob (a := 55) (c := 5) (by decide) rfl, zK_len (n := 57) (by decide), zK_wP, if_neg (by decide), zK_mk (n := 58) rfl c2, zK_ob (a := 55) (c := 5) (by decide) rfl, zK_len (n := 58) (by decide), zK_wP, if_neg (by decide), zK_mk (n := 59) rfl c3, zK_ob (a := 55) (c := 5) (by decide) rfl, zK_len (n := 59) (by decide), zK_wP, if_neg (by decide), zK_mk (n := 60) rfl c4, zK_ob (a := 55) (c := 5) (by decide) rfl, zK_len (n := 60) (by decide), zK_wP, hE]
theorem zi_Cv_55 (X : zv_X) {I : zI} {J : zJ} {P : zPP} (hc : zcln 55 I J P) (hp : P 40 0 = some 41) : zg_Cover_init_26 X 40 1 (zK 55 I J P) = zg_Cover_init_26 X 40 2 (zK 61 I J (zpu (zPm P 55 61) 41 1 (some 55))) := by
  have hx := fun (I : zI) (J : zJ) (P : zPP) (k : Nat → Option zv_R) => (show zv_ix (zK 61 I J P) 4 41 (1 : Int32) k = k 1 from zK_ix (n := 61) (a := 41) (t := 4) (m := 10) (j := 1) (by decide) rfl (by decide) (by decide))
  rw [zg_Cover_init_26_e, if_neg (by decide), zK_ob (a := 40) (c := 1) (by decide) rfl, zK_P, hp, zrf, zK_mk (n := 55) rfl hc, zK_len (n := 55) (by decide), zK_ob (a := 55) (c := 5) (by decide) rfl, show (300 >>> ((1 : Int32) &&& 31)) + 2 = (152 : Int32) from by decide, zi_Level_55 X hc, zcv, hx, zK_ob (a := 55) (c := 5) (by decide) rfl, zK_wP, show (1 : Int32) + 1 = 2 from by decide]
theorem zi_Level_61 (X : zv_X) {I : zI} {J : zJ} {P : zPP} (hc : zcln 61 I J P) : zg_Level_init_0 X 61 77 (zK 62 I J P) = some (none, zK 67 I J (zPm P 61 67)) := by
  have hE : zpu (zpu (zpu (zpu (zpu P 61 0 (some 62)) 61 4 (some 63)) 61 5 (some 64)) 61 6 (some 65)) 61 7 (some 66) = zPm P 61 67 := by
    refine zPm_mk (fun a h1 h2 => ?_) ?_ (fun a ha => ?_)
    · skip
      rcases Nat.lt_or_ge a 63 with g | g
      · skip
        have e : a = 62 := by omega
        subst e
        rw [zpu_ne (by decide), zpu_ne (by decide), zpu_ne (by decide), zpu_ne (by decide), zpu_ne (by decide), (hc 62 (by decide)).2.2]
        exact (zPr0 (by decide) rfl).symm
      · skip
        rcases Nat.lt_or_ge a 64 with g | g
        · skip
          have e : a = 63 := by omega
          subst e
          rw [zpu_ne (by decide), zpu_ne (by decide), zpu_ne (by decide), zpu_ne (by decide), zpu_ne (by decide), (hc 63 (by decide)).2.2]
          exact (zPr0 (by decide) rfl).symm
        · skip
          rcases Nat.lt_or_ge a 65 with g | g
          · skip
            have e : a = 64 := by omega
            subst e
            rw [zpu_ne (by decide), zpu_ne (by decide), zpu_ne (by decide), zpu_ne (by decide), zpu_ne (by decide), (hc 64 (by decide)).2.2]
            exact (zPr0 (by decide) rfl).symm
          · skip
            rcases Nat.lt_or_ge a 66 with g | g
            · skip
              have e : a = 65 := by omega
              subst e
              rw [zpu_ne (by decide), zpu_ne (by decide), zpu_ne (by decide), zpu_ne (by decide), zpu_ne (by decide), (hc 65 (by decide)).2.2]
              exact (zPr0 (by decide) rfl).symm
            · skip
              have e : a = 66 := by omega
              subst e
              rw [zpu_ne (by decide), zpu_ne (by decide), zpu_ne (by decide), zpu_ne (by decide), zpu_ne (by decide), (hc 66 (by decide)).2.2]
              exact (zPr0 (by decide) rfl).symm
    · skip
      rw [zPr (l := [some 62, none, none, none, some 63, some 64, some 65, some 66]) (by decide) rfl]
      rw [zpu_same, zpu_same, zpu_same, zpu_same, zpu_same, (hc 61 (by decide)).2.2]
      funext j
      match j with
      | 0 => rfl
      | 1 => rfl
      | 2 => rfl
      | 3 => rfl
      | 4 => rfl
      | 5 => rfl
      | 6 => rfl
      | 7 => rfl
      | j + 8 => rfl
    · rw [zpu_ne (by omega), zpu_ne (by omega), zpu_ne (by omega), zpu_ne (by omega), zpu_ne (by omega)]
  have c0 : zcln 62 I J P := zcln_le hc (by decide)
  have c1 : zcln 63 I J (zpu P 61 0 (some 62)) := zcln_wP (zcln_le c0 (by decide)) (by decide)
  have c2 : zcln 64 I J (zpu (zpu P 61 0 (some 62)) 61 4 (some 63)) := zcln_wP (zcln_le c1 (by decide)) (by decide)
  have c3 : zcln 65 I J (zpu (zpu (zpu P 61 0 (some 62)) 61 4 (some 63)) 61 5 (some 64)) := zcln_wP (zcln_le c2 (by decide)) (by decide)
  have c4 : zcln 66 I J (zpu (zpu (zpu (zpu P 61 0 (some 62)) 61 4 (some 63)) 61 5 (some 64)) 61 6 (some 65)) := zcln_wP (zcln_le c3 (by decide)) (by decide)
  have c5 : zcln 67 I J (zpu (zpu (zpu (zpu (zpu P 61 0 (some 62)) 61 4 (some 63)) 61 5 (some 64)) 61 6 (some 65)) 61 7 (some 66)) := zcln_wP (zcln_le c4 (by decide)) (by decide)
  rw [zg_Level_init_0_e, show (77 : Int32) / 2 + 1 = 39 from by decide, show Int32.toNatClampNeg 77 = 77 from rfl, show Int32.toNatClampNeg 39 = 39 from rfl, if_neg (by decide), zK_mk (n := 62) rfl c0, zK_ob (a := 61) (c := 5) (by decide) rfl, zK_len (n := 62) (by decide), zK_wP, if_neg (by decide), if_neg (by decide), zK_mk (n := 63) rfl c1, zK_ob (a := 61) (c := 5) (by decide) rfl, zK_len (n := 63) (by decide), zK_wP, if_neg (by decide), zK_mk (n := 64) rfl c2, zK_ob (a := 61) (c := 5) (by decide) rfl, zK_len (n := 64) (by decide), zK_wP, if_neg (by decide), zK_mk (n := 65) rfl c3, zK_ob (a := 61) (c := 5) (by decide) rfl, zK_len (n := 65) (by decide), zK_wP, if_neg (by decide), zK_mk (n := 66) rfl c4, zK_ob (a := 61) (c := 5) (by decide) rfl, zK_len (n := 66) (by decide), zK_wP, hE]
theorem zi_Cv_61 (X : zv_X) {I : zI} {J : zJ} {P : zPP} (hc : zcln 61 I J P) (hp : P 40 0 = some 41) : zg_Cover_init_26 X 40 2 (zK 61 I J P) = zg_Cover_init_26 X 40 3 (zK 67 I J (zpu (zPm P 61 67) 41 2 (some 61))) := by
  have hx := fun (I : zI) (J : zJ) (P : zPP) (k : Nat → Option zv_R) => (show zv_ix (zK 67 I J P) 4 41 (2 : Int32) k = k 2 from zK_ix (n := 67) (a := 41) (t := 4) (m := 10) (j := 2) (by decide) rfl (by decide) (by decide))
  rw [zg_Cover_init_26_e, if_neg (by decide), zK_ob (a := 40) (c := 1) (by decide) rfl, zK_P, hp, zrf, zK_mk (n := 61) rfl hc, zK_len (n := 61) (by decide), zK_ob (a := 61) (c := 5) (by decide) rfl, show (300 >>> ((2 : Int32) &&& 31)) + 2 = (77 : Int32) from by decide, zi_Level_61 X hc, zcv, hx, zK_ob (a := 61) (c := 5) (by decide) rfl, zK_wP, show (2 : Int32) + 1 = 3 from by decide]
theorem zi_Level_67 (X : zv_X) {I : zI} {J : zJ} {P : zPP} (hc : zcln 67 I J P) : zg_Level_init_0 X 67 39 (zK 68 I J P) = some (none, zK 73 I J (zPm P 67 73)) := by
  have hE : zpu (zpu (zpu (zpu (zpu P 67 0 (some 68)) 67 4 (some 69)) 67 5 (some 70)) 67 6 (some 71)) 67 7 (some 72) = zPm P 67 73 := by
    refine zPm_mk (fun a h1 h2 => ?_) ?_ (fun a ha => ?_)
    · skip
      rcases Nat.lt_or_ge a 69 with g | g
      · skip
        have e : a = 68 := by omega
        subst e
        rw [zpu_ne (by decide), zpu_ne (by decide), zpu_ne (by decide), zpu_ne (by decide), zpu_ne (by decide), (hc 68 (by decide)).2.2]
        exact (zPr0 (by decide) rfl).symm
      · skip
        rcases Nat.lt_or_ge a 70 with g | g
        · skip
          have e : a = 69 := by omega
          subst e
          rw [zpu_ne (by decide), zpu_ne (by decide), zpu_ne (by decide), zpu_ne (by decide), zpu_ne (by decide), (hc 69 (by decide)).2.2]
          exact (zPr0 (by decide) rfl).symm
        · skip
          rcases Nat.lt_or_ge a 71 with g | g
          · skip
            have e : a = 70 := by omega
            subst e
            rw [zpu_ne (by decide), zpu_ne (by decide), zpu_ne (by decide), zpu_ne (by decide), zpu_ne (by decide), (hc 70 (by decide)).2.2]
            exact (zPr0 (by decide) rfl).symm
          · skip
            rcases Nat.lt_or_ge a 72 with g | g
            · skip
              have e : a = 71 := by omega
              subst e
              rw [zpu_ne (by decide), zpu_ne (by decide), zpu_ne (by decide), zpu_ne (by decide), zpu_ne (by decide), (hc 71 (by decide)).2.2]
              exact (zPr0 (by decide) rfl).symm
            · skip
              have e : a = 72 := by omega
              subst e
              rw [zpu_ne (by decide), zpu_ne (by decide), zpu_ne (by decide), zpu_ne (by decide), zpu_ne (by decide), (hc 72 (by decide)).2.2]
              exact (zPr0 (by decide) rfl).symm
    · skip
      rw [zPr (l := [some 68, none, none, none, some 69, some 70, some 71, some 72]) (by decide) rfl]
      rw [zpu_same, zpu_same, zpu_same, zpu_same, zpu_same, (hc 67 (by decide)).2.2]
      funext j
      match j with
      | 0 => rfl
      | 1 => rfl
      | 2 => rfl
      | 3 => rfl
      | 4 => rfl
      | 5 => rfl
      | 6 => rfl
      | 7 => rfl
      | j + 8 => rfl
    · rw [zpu_ne (by omega), zpu_ne (by omega), zpu_ne (by omega), zpu_ne (by omega), zpu_ne (by omega)]
  have c0 : zcln 68 I J P := zcln_le hc (by decide)
  have c1 : zcln 69 I J (zpu P 67 0 (some 68)) := zcln_wP (zcln_le c0 (by decide)) (by decide)
  have c2 : zcln 70 I J (zpu (zpu P 67 0 (some 68)) 67 4 (some 69)) := zcln_wP (zcln_le c1 (by decide)) (by decide)
  have c3 : zcln 71 I J (zpu (zpu (zpu P 67 0 (some 68)) 67 4 (some 69)) 67 5 (some 70)) := zcln_wP (zcln_le c2 (by decide)) (by decide)
  have c4 : zcln 72 I J (zpu (zpu (zpu (zpu P 67 0 (some 68)) 67 4 (some 69)) 67 5 (some 70)) 67 6 (some 71)) := zcln_wP (zcln_le c3 (by decide)) (by decide)
  have c5 : zcln 73 I J (zpu (zpu (zpu (zpu (zpu P 67 0 (some 68)) 67 4 (some 69)) 67 5 (some 70)) 67 6 (some 71)) 67 7 (some 72)) := zcln_wP (zcln_le c4 (by decide)) (by decide)
  rw [zg_Level_init_0_e, show (39 : Int32) / 2 + 1 = 20 from by decide, show Int32.toNatClampNeg 39 = 39 from rfl, show Int32.toNatClampNeg 20 = 20 from rfl, if_neg (by decide), zK_mk (n := 68) rfl c0, zK_ob (a := 67) (c := 5) (by decide) rfl, zK_len (n := 68) (by decide), zK_wP, if_neg (by decide), if_neg (by decide), zK_mk (n := 69) rfl c1, zK_ob (a := 67) (c := 5) (by decide) rfl, zK_len (n := 69) (by decide), zK_wP, if_neg (by decide), zK_mk (n := 70) rfl c2, zK_ob (a := 67) (c := 5) (by decide) rfl, zK_len (n := 70) (by decide), zK_wP, if_neg (by decide), zK_mk (n := 71) rfl c3, zK_ob (a := 67) (c := 5) (by decide) rfl, zK_len (n := 71) (by decide), zK_wP, if_neg (by decide), zK_mk (n := 72) rfl c4, zK_ob (a := 67) (c := 5) (by decide) rfl, zK_len (n := 72) (by decide), zK_wP, hE]
theorem zi_Cv_67 (X : zv_X) {I : zI} {J : zJ} {P : zPP} (hc : zcln 67 I J P) (hp : P 40 0 = some 41) : zg_Cover_init_26 X 40 3 (zK 67 I J P) = zg_Cover_init_26 X 40 4 (zK 73 I J (zpu (zPm P 67 73) 41 3 (some 67))) := by
  have hx := fun (I : zI) (J : zJ) (P : zPP) (k : Nat → Option zv_R) => (show zv_ix (zK 73 I J P) 4 41 (3 : Int32) k = k 3 from zK_ix (n := 73) (a := 41) (t := 4) (m := 10) (j := 3) (by decide) rfl (by decide) (by decide))
  rw [zg_Cover_init_26_e, if_neg (by decide), zK_ob (a := 40) (c := 1) (by decide) rfl, zK_P, hp, zrf, zK_mk (n := 67) rfl hc, zK_len (n := 67) (by decide), zK_ob (a := 67) (c := 5) (by decide) rfl, show (300 >>> ((3 : Int32) &&& 31)) + 2 = (39 : Int32) from by decide, zi_Level_67 X hc, zcv, hx, zK_ob (a := 67) (c := 5) (by decide) rfl, zK_wP, show (3 : Int32) + 1 = 4 from by decide]
theorem zi_Level_73 (X : zv_X) {I : zI} {J : zJ} {P : zPP} (hc : zcln 73 I J P) : zg_Level_init_0 X 73 20 (zK 74 I J P) = some (none, zK 79 I J (zPm P 73 79)) := by
  have hE : zpu (zpu (zpu (zpu (zpu P 73 0 (some 74)) 73 4 (some 75)) 73 5 (some 76)) 73 6 (some 77)) 73 7 (some 78) = zPm P 73 79 := by
    refine zPm_mk (fun a h1 h2 => ?_) ?_ (fun a ha => ?_)
    · skip
      rcases Nat.lt_or_ge a 75 with g | g
      · skip
        have e : a = 74 := by omega
        subst e
        rw [zpu_ne (by decide), zpu_ne (by decide), zpu_ne (by decide), zpu_ne (by decide), zpu_ne (by decide), (hc 74 (by decide)).2.2]
        exact (zPr0 (by decide) rfl).symm
      · skip
        rcases Nat.lt_or_ge a 76 with g | g
        · skip
          have e : a = 75 := by omega
          subst e
          rw [zpu_ne (by decide), zpu_ne (by decide), zpu_ne (by decide), zpu_ne (by decide), zpu_ne (by decide), (hc 75 (by decide)).2.2]
          exact (zPr0 (by decide) rfl).symm
        · skip
          rcases Nat.lt_or_ge a 77 with g | g
          · skip
            have e : a = 76 := by omega
            subst e
            rw [zpu_ne (by decide), zpu_ne (by decide), zpu_ne (by decide), zpu_ne (by decide), zpu_ne (by decide), (hc 76 (by decide)).2.2]
            exact (zPr0 (by decide) rfl).symm
          · skip
            rcases Nat.lt_or_ge a 78 with g | g
            · skip
              have e : a = 77 := by omega
              subst e
              rw [zpu_ne (by decide), zpu_ne (by decide), zpu_ne (by decide), zpu_ne (by decide), zpu_ne (by decide), (hc 77 (by decide)).2.2]
              exact (zPr0 (by decide) rfl).symm
            · skip
              have e : a = 78 := by omega
              subst e
              rw [zpu_ne (by decide), zpu_ne (by decide), zpu_ne (by decide), zpu_ne (by decide), zpu_ne (by decide), (hc 78 (by decide)).2.2]
              exact (zPr0 (by decide) rfl).symm
    · skip
      rw [zPr (l := [some 74, none, none, none, some 75, some 76, some 77, some 78]) (by decide) rfl]
      rw [zpu_same, zpu_same, zpu_same, zpu_same, zpu_same, (hc 73 (by decide)).2.2]
      funext j
      match j with
      | 0 => rfl
      | 1 => rfl
      | 2 => rfl
      | 3 => rfl
      | 4 => rfl
      | 5 => rfl
      | 6 => rfl
      | 7 => rfl
      | j + 8 => rfl
    · rw [zpu_ne (by omega), zpu_ne (by omega), zpu_ne (by omega), zpu_ne (by omega), zpu_ne (by omega)]
  have c0 : zcln 74 I J P := zcln_le hc (by decide)
  have c1 : zcln 75 I J (zpu P 73 0 (some 74)) := zcln_wP (zcln_le c0 (by decide)) (by decide)
  have c2 : zcln 76 I J (zpu (zpu P 73 0 (some 74)) 73 4 (some 75)) := zcln_wP (zcln_le c1 (by decide)) (by decide)
  have c3 : zcln 77 I J (zpu (zpu (zpu P 73 0 (some 74)) 73 4 (some 75)) 73 5 (some 76)) := zcln_wP (zcln_le c2 (by decide)) (by decide)
  have c4 : zcln 78 I J (zpu (zpu (zpu (zpu P 73 0 (some 74)) 73 4 (some 75)) 73 5 (some 76)) 73 6 (some 77)) := zcln_wP (zcln_le c3 (by decide)) (by decide)
  have c5 : zcln 79 I J (zpu (zpu (zpu (zpu (zpu P 73 0 (some 74)) 73 4 (some 75)) 73 5 (some 76)) 73 6 (some 77)) 73 7 (some 78)) := zcln_wP (zcln_le c4 (by decide)) (by decide)
  rw [zg_Level_init_0_e, show (20 : Int32) / 2 + 1 = 11 from by decide, show Int32.toNatClampNeg 20 = 20 from rfl, show Int32.toNatClampNeg 11 = 11 from rfl, if_neg (by decide), zK_mk (n := 74) rfl c0, zK_ob (a := 73) (c := 5) (by decide) rfl, zK_len (n := 74) (by decide), zK_wP, if_neg (by decide), if_neg (by decide), zK_mk (n := 75) rfl c1, zK_ob (a := 73) (c := 5) (by decide) rfl, zK_len (n := 75) (by decide), zK_wP, if_neg (by decide), zK_mk (n := 76) rfl c2, zK_ob (a := 73) (c := 5) (by decide) rfl, zK_len (n := 76) (by decide), zK_wP, if_neg (by decide), zK_mk (n := 77) rfl c3, zK_ob (a := 73) (c := 5) (by decide) rfl, zK_len (n := 77) (by decide), zK_wP, if_neg (by decide), zK_mk (n := 78) rfl c4, zK_ob (a := 73) (c := 5) (by decide) rfl, zK_len (n := 78) (by decide), zK_wP, hE]
theorem zi_Cv_73 (X : zv_X) {I : zI} {J : zJ} {P : zPP} (hc : zcln 73 I J P) (hp : P 40 0 = some 41) : zg_Cover_init_26 X 40 4 (zK 73 I J P) = zg_Cover_init_26 X 40 5 (zK 79 I J (zpu (zPm P 73 79) 41 4 (some 73))) := by
  have hx := fun (I : zI) (J : zJ) (P : zPP) (k : Nat → Option zv_R) => (show zv_ix (zK 79 I J P) 4 41 (4 : Int32) k = k 4 from zK_ix (n := 79) (a := 41) (t := 4) (m := 10) (j := 4) (by decide) rfl (by decide) (by decide))
  rw [zg_Cover_init_26_e, if_neg (by decide), zK_ob (a := 40) (c := 1) (by decide) rfl, zK_P, hp, zrf, zK_mk (n := 73) rfl hc, zK_len (n := 73) (by decide), zK_ob (a := 73) (c := 5) (by decide) rfl, show (300 >>> ((4 : Int32) &&& 31)) + 2 = (20 : Int32) from by decide, zi_Level_73 X hc, zcv, hx, zK_ob (a := 73) (c := 5) (by decide) rfl, zK_wP, show (4 : Int32) + 1 = 5 from by decide]
theorem zi_Level_79 (X : zv_X) {I : zI} {J : zJ} {P : zPP} (hc : zcln 79 I J P) : zg_Level_init_0 X 79 11 (zK 80 I J P) = some (none, zK 85 I J (zPm P 79 85)) := by
  have hE : zpu (zpu (zpu (zpu (zpu P 79 0 (some 80)) 79 4 (some 81)) 79 5 (some 82)) 79 6 (some 83)) 79 7 (some 84) = zPm P 79 85 := by
    refine zPm_mk (fun a h1 h2 => ?_) ?_ (fun a ha => ?_)
    · skip
      rcases Nat.lt_or_ge a 81 with g | g
      · skip
        have e : a = 80 := by omega
        subst e
        rw [zpu_ne (by decide), zpu_ne (by decide), zpu_ne (by decide), zpu_ne (by decide), zpu_ne (by decide), (hc 80 (by decide)).2.2]
        exact (zPr0 (by decide) rfl).symm
      · skip
        rcases Nat.lt_or_ge a 82 with g | g
        · skip
          have e : a = 81 := by omega
          subst e
          rw [zpu_ne (by decide), zpu_ne (by decide), zpu_ne (by decide), zpu_ne (by decide), zpu_ne (by decide), (hc 81 (by decide)).2.2]
          exact (zPr0 (by decide) rfl).symm
        · skip
          rcases Nat.lt_or_ge a 83 with g | g
          · skip
            have e : a = 82 := by omega
            subst e
            rw [zpu_ne (by decide), zpu_ne (by decide), zpu_ne (by decide), zpu_ne (by decide), zpu_ne (by decide), (hc 82 (by decide)).2.2]
            exact (zPr0 (by decide) rfl).symm
          · skip
            rcases Nat.lt_or_ge a 84 with g | g
            · skip
              have e : a = 83 := by omega
              subst e
              rw [zpu_ne (by decide), zpu_ne (by decide), zpu_ne (by decide), zpu_ne (by decide), zpu_ne (by decide), (hc 83 (by decide)).2.2]
              exact (zPr0 (by decide) rfl).symm
            · skip
              have e : a = 84 := by omega
              subst e
              rw [zpu_ne (by decide), zpu_ne (by decide), zpu_ne (by decide), zpu_ne (by decide), zpu_ne (by decide), (hc 84 (by decide)).2.2]
              exact (zPr0 (by decide) rfl).symm
    · skip
      rw [zPr (l := [some 80, none, none, none, some 81, some 82, some 83, some 84]) (by decide) rfl]
      rw [zpu_same, zpu_same, zpu_same, zpu_same, zpu_same, (hc 79 (by decide)).2.2]
      funext j
      match j with
      | 0 => rfl
      | 1 => rfl
      | 2 => rfl
      | 3 => rfl
      | 4 => rfl
      | 5 => rfl
      | 6 => rfl
      | 7 => rfl
      | j + 8 => rfl
    · rw [zpu_ne (by omega), zpu_ne (by omega), zpu_ne (by omega), zpu_ne (by omega), zpu_ne (by omega)]
  have c0 : zcln 80 I J P := zcln_le hc (by decide)
  have c1 : zcln 81 I J (zpu P 79 0 (some 80)) := zcln_wP (zcln_le c0 (by decide)) (by decide)
  have c2 : zcln 82 I J (zpu (zpu P 79 0 (some 80)) 79 4 (some 81)) := zcln_wP (zcln_le c1 (by decide)) (by decide)
  have c3 : zcln 83 I J (zpu (zpu (zpu P 79 0 (some 80)) 79 4 (some 81)) 79 5 (some 82)) := zcln_wP (zcln_le c2 (by decide)) (by decide)
  have c4 : zcln 84 I J (zpu (zpu (zpu (zpu P 79 0 (some 80)) 79 4 (some 81)) 79 5 (some 82)) 79 6 (some 83)) := zcln_wP (zcln_le c3 (by decide)) (by decide)
  have c5 : zcln 85 I J (zpu (zpu (zpu (zpu (zpu P 79 0 (some 80)) 79 4 (some 81)) 79 5 (some 82)) 79 6 (some 83)) 79 7 (some 84)) := zcln_wP (zcln_le c4 (by decide)) (by decide)
  rw [zg_Level_init_0_e, show (11 : Int32) / 2 + 1 = 6 from by decide, show Int32.toNatClampNeg 11 = 11 from rfl, show Int32.toNatClampNeg 6 = 6 from rfl, if_neg (by decide), zK_mk (n := 80) rfl c0, zK_ob (a := 79) (c := 5) (by decide) rfl, zK_len (n := 80) (by decide), zK_wP, if_neg (by decide), if_neg (by decide), zK_mk (n := 81) rfl c1, zK_ob (a := 79) (c := 5) (by decide) rfl, zK_len (n := 81) (by decide), zK_wP, if_neg (by decide), zK_mk (n := 82) rfl c2, zK_ob (a := 79) (c := 5) (by decide) rfl, zK_len (n := 82) (by decide), zK_wP, if_neg (by decide), zK_mk (n := 83) rfl c3, zK_ob (a := 79) (c := 5) (by decide) rfl, zK_len (n := 83) (by decide), zK_wP, if_neg (by decide), zK_mk (n := 84) rfl c4, zK_ob (a := 79) (c := 5) (by decide) rfl, zK_len (n := 84) (by decide), zK_wP, hE]
theorem zi_Cv_79 (X : zv_X) {I : zI} {J : zJ} {P : zPP} (hc : zcln 79 I J P) (hp : P 40 0 = some 41) : zg_Cover_init_26 X 40 5 (zK 79 I J P) = zg_Cover_init_26 X 40 6 (zK 85 I J (zpu (zPm P 79 85) 41 5 (some 79))) := by
  have hx := fun (I : zI) (J : zJ) (P : zPP) (k : Nat → Option zv_R) => (show zv_ix (zK 85 I J P) 4 41 (5 : Int32) k = k 5 from zK_ix (n := 85) (a := 41) (t := 4) (m := 10) (j := 5) (by decide) rfl (by decide) (by decide))
  rw [zg_Cover_init_26_e, if_neg (by decide), zK_ob (a := 40) (c := 1) (by decide) rfl, zK_P, hp, zrf, zK_mk (n := 79) rfl hc, zK_len (n := 79) (by decide), zK_ob (a := 79) (c := 5) (by decide) rfl, show (300 >>> ((5 : Int32) &&& 31)) + 2 = (11 : Int32) from by decide, zi_Level_79 X hc, zcv, hx, zK_ob (a := 79) (c := 5) (by decide) rfl, zK_wP, show (5 : Int32) + 1 = 6 from by decide]
theorem zi_Level_85 (X : zv_X) {I : zI} {J : zJ} {P : zPP} (hc : zcln 85 I J P) : zg_Level_init_0 X 85 6 (zK 86 I J P) = some (none, zK 91 I J (zPm P 85 91)) := by
  have hE : zpu (zpu (zpu (zpu (zpu P 85 0 (some 86)) 85 4 (some 87)) 85 5 (some 88)) 85 6 (some 89)) 85 7 (some 90) = zPm P 85 91 := by
    refine zPm_mk (fun a h1 h2 => ?_) ?_ (fun a ha => ?_)
    · skip
      rcases Nat.lt_or_ge a 87 with g | g
      · skip
        have e : a = 86 := by omega
        subst e
        rw [zpu_ne (by decide), zpu_ne (by decide), zpu_ne (by decide), zpu_ne (by decide), zpu_ne (by decide), (hc 86 (by decide)).2.2]
        exact (zPr0 (by decide) rfl).symm
      · skip
        rcases Nat.lt_or_ge a 88 with g | g
        · skip
          have e : a = 87 := by omega
          subst e
          rw [zpu_ne (by decide), zpu_ne (by decide), zpu_ne (by decide), zpu_ne (by decide), zpu_ne (by decide), (hc 87 (by decide)).2.2]
          exact (zPr0 (by decide) rfl).symm
        · skip
          rcases Nat.lt_or_ge a 89 with g | g
          · skip
            have e : a = 88 := by omega
            subst e
            rw [zpu_ne (by decide), zpu_ne (by decide), zpu_ne (by decide), zpu_ne (by decide), zpu_ne (by decide), (hc 88 (by decide)).2.2]
            exact (zPr0 (by decide) rfl).symm
          · skip
            rcases Nat.lt_or_ge a 90 with g | g
            · skip
              have e : a = 89 := by omega
              subst e
              rw [zpu_ne (by decide), zpu_ne (by decide), zpu_ne (by decide), zpu_ne (by decide), zpu_ne (by decide), (hc 89 (by decide)).2.2]
              exact (zPr0 (by decide) rfl).symm
            · skip
              have e : a = 90 := by omega
              subst e
              rw [zpu_ne (by decide), zpu_ne (by decide), zpu_ne (by decide), zpu_ne (by decide), zpu_ne (by decide), (hc 90 (by decide)).2.2]
              exact (zPr0 (by decide) rfl).symm
    · skip
      rw [zPr (l := [some 86, none, none, none, some 87, some 88, some 89, some 90]) (by decide) rfl]
      rw [zpu_same, zpu_same, zpu_same, zpu_same, zpu_same, (hc 85 (by decide)).2.2]
      funext j
      match j with
      | 0 => rfl
      | 1 => rfl
      | 2 => rfl
      | 3 => rfl
      | 4 => rfl
      | 5 => rfl
      | 6 => rfl
      | 7 => rfl
      | j + 8 => rfl
    · rw [zpu_ne (by omega), zpu_ne (by omega), zpu_ne (by omega), zpu_ne (by omega), zpu_ne (by omega)]
  have c0 : zcln 86 I J P := zcln_le hc (by decide)
  have c1 : zcln 87 I J (zpu P 85 0 (some 86)) := zcln_wP (zcln_le c0 (by decide)) (by decide)
  have c2 : zcln 88 I J (zpu (zpu P 85 0 (some 86)) 85 4 (some 87)) := zcln_wP (zcln_le c1 (by decide)) (by decide)
  have c3 : zcln 89 I J (zpu (zpu (zpu P 85 0 (some 86)) 85 4 (some 87)) 85 5 (some 88)) := zcln_wP (zcln_le c2 (by decide)) (by decide)
  have c4 : zcln 90 I J (zpu (zpu (zpu (zpu P 85 0 (some 86)) 85 4 (some 87)) 85 5 (some 88)) 85 6 (some 89)) := zcln_wP (zcln_le c3 (by decide)) (by decide)
  have c5 : zcln 91 I J (zpu (zpu (zpu (zpu (zpu P 85 0 (some 86)) 85 4 (some 87)) 85 5 (some 88)) 85 6 (some 89)) 85 7 (some 90)) := zcln_wP (zcln_le c4 (by decide)) (by decide)
  rw [zg_Level_init_0_e, show (6 : Int32) / 2 + 1 = 4 from by decide, show Int32.toNatClampNeg 6 = 6 from rfl, show Int32.toNatClampNeg 4 = 4 from rfl, if_neg (by decide), zK_mk (n := 86) rfl c0, zK_ob (a := 85) (c := 5) (by decide) rfl, zK_len (n := 86) (by decide), zK_wP, if_neg (by decide), if_neg (by decide), zK_mk (n := 87) rfl c1, zK_ob (a := 85) (c := 5) (by decide) rfl, zK_len (n := 87) (by decide), zK_wP, if_neg (by decide), zK_mk (n := 88) rfl c2, zK_ob (a := 85) (c := 5) (by decide) rfl, zK_len (n := 88) (by decide), zK_wP, if_neg (by decide), zK_mk (n := 89) rfl c3, zK_ob (a := 85) (c := 5) (by decide) rfl, zK_len (n := 89) (by decide), zK_wP, if_neg (by decide), zK_mk (n := 90) rfl c4, zK_ob (a := 85) (c := 5) (by decide) rfl, zK_len (n := 90) (by decide), zK_wP, hE]
theorem zi_Cv_85 (X : zv_X) {I : zI} {J : zJ} {P : zPP} (hc : zcln 85 I J P) (hp : P 40 0 = some 41) : zg_Cover_init_26 X 40 6 (zK 85 I J P) = zg_Cover_init_26 X 40 7 (zK 91 I J (zpu (zPm P 85 91) 41 6 (some 85))) := by
  have hx := fun (I : zI) (J : zJ) (P : zPP) (k : Nat → Option zv_R) => (show zv_ix (zK 91 I J P) 4 41 (6 : Int32) k = k 6 from zK_ix (n := 91) (a := 41) (t := 4) (m := 10) (j := 6) (by decide) rfl (by decide) (by decide))
  rw [zg_Cover_init_26_e, if_neg (by decide), zK_ob (a := 40) (c := 1) (by decide) rfl, zK_P, hp, zrf, zK_mk (n := 85) rfl hc, zK_len (n := 85) (by decide), zK_ob (a := 85) (c := 5) (by decide) rfl, show (300 >>> ((6 : Int32) &&& 31)) + 2 = (6 : Int32) from by decide, zi_Level_85 X hc, zcv, hx, zK_ob (a := 85) (c := 5) (by decide) rfl, zK_wP, show (6 : Int32) + 1 = 7 from by decide]
theorem zi_Level_91 (X : zv_X) {I : zI} {J : zJ} {P : zPP} (hc : zcln 91 I J P) : zg_Level_init_0 X 91 4 (zK 92 I J P) = some (none, zK 97 I J (zPm P 91 97)) := by
  have hE : zpu (zpu (zpu (zpu (zpu P 91 0 (some 92)) 91 4 (some 93)) 91 5 (some 94)) 91 6 (some 95)) 91 7 (some 96) = zPm P 91 97 := by
    refine zPm_mk (fun a h1 h2 => ?_) ?_ (fun a ha => ?_)
    · skip
      rcases Nat.lt_or_ge a 93 with g | g
      · skip
        have e : a = 92 := by omega
        subst e
        rw [zpu_ne (by decide), zpu_ne (by decide), zpu_ne (by decide), zpu_ne (by decide), zpu_ne (by decide), (hc 92 (by decide)).2.2]
        exact (zPr0 (by decide) rfl).symm
      · skip
        rcases Nat.lt_or_ge a 94 with g | g
        · skip
          have e : a = 93 := by omega
          subst e
          rw [zpu_ne (by decide), zpu_ne (by decide), zpu_ne (by decide), zpu_ne (by decide), zpu_ne (by decide), (hc 93 (by decide)).2.2]
          exact (zPr0 (by decide) rfl).symm
        · skip
          rcases Nat.lt_or_ge a 95 with g | g
          · skip
            have e : a = 94 := by omega
            subst e
            rw [zpu_ne (by decide), zpu_ne (by decide), zpu_ne (by decide), zpu_ne (by decide), zpu_ne (by decide), (hc 94 (by decide)).2.2]
            exact (zPr0 (by decide) rfl).symm
          · skip
            rcases Nat.lt_or_ge a 96 with g | g
            · skip
              have e : a = 95 := by omega
              subst e
              rw [zpu_ne (by decide), zpu_ne (by decide), zpu_ne (by decide), zpu_ne (by decide), zpu_ne (by decide), (hc 95 (by decide)).2.2]
              exact (zPr0 (by decide) rfl).symm
            · skip
              have e : a = 96 := by omega
              subst e
              rw [zpu_ne (by decide), zpu_ne (by decide), zpu_ne (by decide), zpu_ne (by decide), zpu_ne (by decide), (hc 96 (by decide)).2.2]
              exact (zPr0 (by decide) rfl).symm
    · skip
      rw [zPr (l := [some 92, none, none, none, some 93, some 94, some 95, some 96]) (by decide) rfl]
      rw [zpu_same, zpu_same, zpu_same, zpu_same, zpu_same, (hc 91 (by decide)).2.2]
      funext j
      match j with
      | 0 => rfl
      | 1 => rfl
      | 2 => rfl
      | 3 => rfl
      | 4 => rfl
      | 5 => rfl
      | 6 => rfl
      | 7 => rfl
      | j + 8 => rfl
    · rw [zpu_ne (by omega), zpu_ne (by omega), zpu_ne (by omega), zpu_ne (by omega), zpu_ne (by omega)]
  have c0 : zcln 92 I J P := zcln_le hc (by decide)
  have c1 : zcln 93 I J (zpu P 91 0 (some 92)) := zcln_wP (zcln_le c0 (by decide)) (by decide)
  have c2 : zcln 94 I J (zpu (zpu P 91 0 (some 92)) 91 4 (some 93)) := zcln_wP (zcln_le c1 (by decide)) (by decide)
  have c3 : zcln 95 I J (zpu (zpu (zpu P 91 0 (some 92)) 91 4 (some 93)) 91 5 (some 94)) := zcln_wP (zcln_le c2 (by decide)) (by decide)
  have c4 : zcln 96 I J (zpu (zpu (zpu (zpu P 91 0 (some 92)) 91 4 (some 93)) 91 5 (some 94)) 91 6 (some 95)) := zcln_wP (zcln_le c3 (by decide)) (by decide)
  have c5 : zcln 97 I J (zpu (zpu (zpu (zpu (zpu P 91 0 (some 92)) 91 4 (some 93)) 91 5 (some 94)) 91 6 (some 95)) 91 7 (some 96)) := zcln_wP (zcln_le c4 (by decide)) (by decide)
  rw [zg_Level_init_0_e, show (4 : Int32) / 2 + 1 = 3 from by decide, show Int32.toNatClampNeg 4 = 4 from rfl, show Int32.toNatClampNeg 3 = 3 from rfl, if_neg (by decide), zK_mk (n := 92) rfl c0, zK_ob (a := 91) (c := 5) (by decide) rfl, zK_len (n := 92) (by decide), zK_wP, if_neg (by decide), if_neg (by decide), zK_mk (n := 93) rfl c1, zK_ob (a := 91) (c := 5) (by decide) rfl, zK_len (n := 93) (by decide), zK_wP, if_neg (by decide), zK_mk (n := 94) rfl c2, zK_ob (a := 91) (c := 5) (by decide) rfl, zK_len (n := 94) (by decide), zK_wP, if_neg (by decide), zK_mk (n := 95) rfl c3, zK_ob (a := 91) (c := 5) (by decide) rfl, zK_len (n := 95) (by decide), zK_wP, if_neg (by decide), zK_mk (n := 96) rfl c4, zK_ob (a := 91) (c := 5) (by decide) rfl, zK_len (n := 96) (by decide), zK_wP, hE]
theorem zi_Cv_91 (X : zv_X) {I : zI} {J : zJ} {P : zPP} (hc : zcln 91 I J P) (hp : P 40 0 = some 41) : zg_Cover_init_26 X 40 7 (zK 91 I J P) = zg_Cover_init_26 X 40 8 (zK 97 I J (zpu (zPm P 91 97) 41 7 (some 91))) := by
  have hx := fun (I : zI) (J : zJ) (P : zPP) (k : Nat → Option zv_R) => (show zv_ix (zK 97 I J P) 4 41 (7 : Int32) k = k 7 from zK_ix (n := 97) (a := 41) (t := 4) (m := 10) (j := 7) (by decide) rfl (by decide) (by decide))
  rw [zg_Cover_init_26_e, if_neg (by decide), zK_ob (a := 40) (c := 1) (by decide) rfl, zK_P, hp, zrf, zK_mk (n := 91) rfl hc, zK_len (n := 91) (by decide), zK_ob (a := 91) (c := 5) (by decide) rfl, show (300 >>> ((7 : Int32) &&& 31)) + 2 = (4 : Int32) from by decide, zi_Level_91 X hc, zcv, hx, zK_ob (a := 91) (c := 5) (by decide) rfl, zK_wP, show (7 : Int32) + 1 = 8 from by decide]
theorem zi_Level_97 (X : zv_X) {I : zI} {J : zJ} {P : zPP} (hc : zcln 97 I J P) : zg_Level_init_0 X 97 3 (zK 98 I J P) = some (none, zK 103 I J (zPm P 97 103)) := by
  have hE : zpu (zpu (zpu (zpu (zpu P 97 0 (some 98)) 97 4 (some 99)) 97 5 (some 100)) 97 6 (some 101)) 97 7 (some 102) = zPm P 97 103 := by
    refine zPm_mk (fun a h1 h2 => ?_) ?_ (fun a ha => ?_)
    · skip
      rcases Nat.lt_or_ge a 99 with g | g
      · skip
        have e : a = 98 := by omega
        subst e
        rw [zpu_ne (by decide), zpu_ne (by decide), zpu_ne (by decide), zpu_ne (by decide), zpu_ne (by decide), (hc 98 (by decide)).2.2]
        exact (zPr0 (by decide) rfl).symm
      · skip
        rcases Nat.lt_or_ge a 100 with g | g
        · skip
          have e : a = 99 := by omega
          subst e
          rw [zpu_ne (by decide), zpu_ne (by decide), zpu_ne (by decide), zpu_ne (by decide), zpu_ne (by decide), (hc 99 (by decide)).2.2]
          exact (zPr0 (by decide) rfl).symm
        · skip
          rcases Nat.lt_or_ge a 101 with g | g
          · skip
            have e : a = 100 := by omega
            subst e
            rw [zpu_ne (by decide), zpu_ne (by decide), zpu_ne (by decide), zpu_ne (by decide), zpu_ne (by decide), (hc 100 (by decide)).2.2]
            exact (zPr0 (by decide) rfl).symm
          · skip
            rcases Nat.lt_or_ge a 102 with g | g
            · skip
              have e : a = 101 := by omega
              subst e
              rw [zpu_ne (by decide), zpu_ne (by decide), zpu_ne (by decide), zpu_ne (by decide), zpu_ne (by decide), (hc 101 (by decide)).2.2]
              exact (zPr0 (by decide) rfl).symm
            · skip
              have e : a = 102 := by omega
              subst e
              rw [zpu_ne (by decide), zpu_ne (by decide), zpu_ne (by decide), zpu_ne (by decide), zpu_ne (by decide), (hc 102 (by decide)).2.2]
              exact (zPr0 (by decide) rfl).symm
    · skip
      rw [zPr (l := [some 98, none, none, none, some 99, some 100, some 101, some 102]) (by decide) rfl]
      rw [zpu_same, zpu_same, zpu_same, zpu_same, zpu_same, (hc 97 (by decide)).2.2]
      funext j
      match j with
      | 0 => rfl
      | 1 => rfl
      | 2 => rfl
      | 3 => rfl
      | 4 => rfl
      | 5 => rfl
      | 6 => rfl
      | 7 => rfl
      | j + 8 => rfl
    · rw [zpu_ne (by omega), zpu_ne (by omega), zpu_ne (by omega), zpu_ne (by omega), zpu_ne (by omega)]
  have c0 : zcln 98 I J P := zcln_le hc (by decide)
  have c1 : zcln 99 I J (zpu P 97 0 (some 98)) := zcln_wP (zcln_le c0 (by decide)) (by decide)
  have c2 : zcln 100 I J (zpu (zpu P 97 0 (some 98)) 97 4 (some 99)) := zcln_wP (zcln_le c1 (by decide)) (by decide)
  have c3 : zcln 101 I J (zpu (zpu (zpu P 97 0 (some 98)) 97 4 (some 99)) 97 5 (some 100)) := zcln_wP (zcln_le c2 (by decide)) (by decide)
  have c4 : zcln 102 I J (zpu (zpu (zpu (zpu P 97 0 (some 98)) 97 4 (some 99)) 97 5 (some 100)) 97 6 (some 101)) := zcln_wP (zcln_le c3 (by decide)) (by decide)
  have c5 : zcln 103 I J (zpu (zpu (zpu (zpu (zpu P 97 0 (some 98)) 97 4 (some 99)) 97 5 (some 100)) 97 6 (some 101)) 97 7 (some 102)) := zcln_wP (zcln_le c4 (by decide)) (by decide)
  rw [zg_Level_init_0_e, show (3 : Int32) / 2 + 1 = 2 from by decide, show Int32.toNatClampNeg 3 = 3 from rfl, show Int32.toNatClampNeg 2 = 2 from rfl, if_neg (by decide), zK_mk (n := 98) rfl c0, zK_ob (a := 97) (c := 5) (by decide) rfl, zK_len (n := 98) (by decide), zK_wP, if_neg (by decide), if_neg (by decide), zK_mk (n := 99) rfl c1, zK_ob (a := 97) (c := 5) (by decide) rfl, zK_len (n := 99) (by decide), zK_wP, if_neg (by decide), zK_mk (n := 100) rfl c2, zK_ob (a := 97) (c := 5) (by decide) rfl, zK_len (n := 100) (by decide), zK_wP, if_neg (by decide), zK_mk (n := 101) rfl c3, zK_ob (a := 97) (c := 5) (by decide) rfl, zK_len (n := 101) (by decide), zK_wP, if_neg (by decide), zK_mk (n := 102) rfl c4, zK_ob (a := 97) (c := 5) (by decide) rfl, zK_len (n := 102) (by decide), zK_wP, hE]
theorem zi_Cv_97 (X : zv_X) {I : zI} {J : zJ} {P : zPP} (hc : zcln 97 I J P) (hp : P 40 0 = some 41) : zg_Cover_init_26 X 40 8 (zK 97 I J P) = zg_Cover_init_26 X 40 9 (zK 103 I J (zpu (zPm P 97 103) 41 8 (some 97))) := by
  have hx := fun (I : zI) (J : zJ) (P : zPP) (k : Nat → Option zv_R) => (show zv_ix (zK 103 I J P) 4 41 (8 : Int32) k = k 8 from zK_ix (n := 103) (a := 41) (t := 4) (m := 10) (j := 8) (by decide) rfl (by decide) (by decide))
  rw [zg_Cover_init_26_e, if_neg (by decide), zK_ob (a := 40) (c := 1) (by decide) rfl, zK_P, hp, zrf, zK_mk (n := 97) rfl hc, zK_len (n := 97) (by decide), zK_ob (a := 97) (c := 5) (by decide) rfl, show (300 >>> ((8 : Int32) &&& 31)) + 2 = (3 : Int32) from by decide, zi_Level_97 X hc, zcv, hx, zK_ob (a := 97) (c := 5) (by decide) rfl, zK_wP, show (8 : Int32) + 1 = 9 from by decide]
theorem zi_Level_103 (X : zv_X) {I : zI} {J : zJ} {P : zPP} (hc : zcln 103 I J P) : zg_Level_init_0 X 103 2 (zK 104 I J P) = some (none, zK 109 I J (zPm P 103 109)) := by
  have hE : zpu (zpu (zpu (zpu (zpu P 103 0 (some 104)) 103 4 (some 105)) 103 5 (some 106)) 103 6 (some 107)) 103 7 (some 108) = zPm P 103 109 := by
    refine zPm_mk (fun a h1 h2 => ?_) ?_ (fun a ha => ?_)
    · skip
      rcases Nat.lt_or_ge a 105 with g | g
      · skip
        have e : a = 104 := by omega
        subst e
        rw [zpu_ne (by decide), zpu_ne (by decide), zpu_ne (by decide), zpu_ne (by decide), zpu_ne (by decide), (hc 104 (by decide)).2.2]
        exact (zPr0 (by decide) rfl).symm
      · skip
        rcases Nat.lt_or_ge a 106 with g | g
        · skip
          have e : a = 105 := by omega
          subst e
          rw [zpu_ne (by decide), zpu_ne (by decide), zpu_ne (by decide), zpu_ne (by decide), zpu_ne (by decide), (hc 105 (by decide)).2.2]
          exact (zPr0 (by decide) rfl).symm
        · skip
          rcases Nat.lt_or_ge a 107 with g | g
          · skip
            have e : a = 106 := by omega
            subst e
            rw [zpu_ne (by decide), zpu_ne (by decide), zpu_ne (by decide), zpu_ne (by decide), zpu_ne (by decide), (hc 106 (by decide)).2.2]
            exact (zPr0 (by decide) rfl).symm
          · skip
            rcases Nat.lt_or_ge a 108 with g | g
            · skip
              have e : a = 107 := by omega
              subst e
              rw [zpu_ne (by decide), zpu_ne (by decide), zpu_ne (by decide), zpu_ne (by decide), zpu_ne (by decide), (hc 107 (by decide)).2.2]
              exact (zPr0 (by decide) rfl).symm
            · skip
              have e : a = 108 := by omega
              subst e
              rw [zpu_ne (by decide), zpu_ne (by decide), zpu_ne (by decide), zpu_ne (by decide), zpu_ne (by decide), (hc 108 (by decide)).2.2]
              exact (zPr0 (by decide) rfl).symm
    · skip
      rw [zPr (l := [some 104, none, none, none, some 105, some 106, some 107, some 108]) (by decide) rfl]
      rw [zpu_same, zpu_same, zpu_same, zpu_same, zpu_same, (hc 103 (by decide)).2.2]
      funext j
      match j with
      | 0 => rfl
      | 1 => rfl
      | 2 => rfl
      | 3 => rfl
      | 4 => rfl
      | 5 => rfl
      | 6 => rfl
      | 7 => rfl
      | j + 8 => rfl
    · rw [zpu_ne (by omega), zpu_ne (by omega), zpu_ne (by omega), zpu_ne (by omega), zpu_ne (by omega)]
  have c0 : zcln 104 I J P := zcln_le hc (by decide)
  have c1 : zcln 105 I J (zpu P 103 0 (some 104)) := zcln_wP (zcln_le c0 (by decide)) (by decide)
  have c2 : zcln 106 I J (zpu (zpu P 103 0 (some 104)) 103 4 (some 105)) := zcln_wP (zcln_le c1 (by decide)) (by decide)
  have c3 : zcln 107 I J (zpu (zpu (zpu P 103 0 (some 104)) 103 4 (some 105)) 103 5 (some 106)) := zcln_wP (zcln_le c2 (by decide)) (by decide)
  have c4 : zcln 108 I J (zpu (zpu (zpu (zpu P 103 0 (some 104)) 103 4 (some 105)) 103 5 (some 106)) 103 6 (some 107)) := zcln_wP (zcln_le c3 (by decide)) (by decide)
  have c5 : zcln 109 I J (zpu (zpu (zpu (zpu (zpu P 103 0 (some 104)) 103 4 (some 105)) 103 5 (some 106)) 103 6 (some 107)) 103 7 (some 108)) := zcln_wP (zcln_le c4 (by decide)) (by decide)
  rw [zg_Level_init_0_e, show (2 : Int32) / 2 + 1 = 2 from by decide, show Int32.toNatClampNeg 2 = 2 from rfl, if_neg (by decide), zK_mk (n := 104) rfl c0, zK_ob (a := 103) (c := 5) (by decide) rfl, zK_len (n := 104) (by decide), zK_wP, if_neg (by decide), if_neg (by decide), zK_mk (n := 105) rfl c1, zK_ob (a := 103) (c := 5) (by decide) rfl, zK_len (n := 105) (by decide), zK_wP, if_neg (by decide), zK_mk (n := 106) rfl c2, zK_ob (a := 103) (c := 5) (by decide) rfl, zK_len (n := 106) (by decide), zK_wP, if_neg (by decide), zK_mk (n := 107) rfl c3, zK_ob (a := 103) (c := 5) (by decide) rfl, zK_len (n := 107) (by decide), zK_wP, if_neg (by decide), zK_mk (n := 108) rfl c4, zK_ob (a := 103) (c := 5) (by decide) rfl, zK_len (n := 108) (by decide), zK_wP, hE]
theorem zi_Cv_103 (X : zv_X) {I : zI} {J : zJ} {P : zPP} (hc : zcln 103 I J P) (hp : P 40 0 = some 41) : zg_Cover_init_26 X 40 9 (zK 103 I J P) = zg_Cover_init_26 X 40 10 (zK 109 I J (zpu (zPm P 103 109) 41 9 (some 103))) := by
  have hx := fun (I : zI) (J : zJ) (P : zPP) (k : Nat → Option zv_R) => (show zv_ix (zK 109 I J P) 4 41 (9 : Int32) k = k 9 from zK_ix (n := 109) (a := 41) (t := 4) (m := 10) (j := 9) (by decide) rfl (by decide) (by decide))
  rw [zg_Cover_init_26_e, if_neg (by decide), zK_ob (a := 40) (c := 1) (by decide) rfl, zK_P, hp, zrf, zK_mk (n := 103) rfl hc, zK_len (n := 103) (by decide), zK_ob (a := 103) (c := 5) (by decide) rfl, show (300 >>> ((9 : Int32) &&& 31)) + 2 = (2 : Int32) from by decide, zi_Level_103 X hc, zcv, hx, zK_ob (a := 103) (c := 5) (by decide) rfl, zK_wP, show (9 : Int32) + 1 = 10 from by decide]
theorem zi_Cover_40 (X : zv_X) {I : zI} {J : zJ} {P : zPP} (hc : zcln 40 I J P) : zg_Cover_init_0 X 40 (zK 41 I J P) = some (none, zK 109 I J (zPm P 40 109)) := by
  have hE : zpu (zPm (zpu (zPm (zpu (zPm (zpu (zPm (zpu (zPm (zpu (zPm (zpu (zPm (zpu (zPm (zpu (zPm (zpu (zPm (zpu (zPm (zpu P 40 0 (some 41)) 42 49) 40 1 (some 42)) 49 55) 41 0 (some 49)) 55 61) 41 1 (some 55)) 61 67) 41 2 (some 61)) 67 73) 41 3 (some 67)) 73 79) 41 4 (some 73)) 79 85) 41 5 (some 79)) 85 91) 41 6 (some 85)) 91 97) 41 7 (some 91)) 97 103) 41 8 (some 97)) 103 109) 41 9 (some 103) = zPm P 40 109 := by
    refine zPm_mk (fun a h1 h2 => ?_) ?_ (fun a ha => ?_)
    · skip
      rcases Nat.lt_or_ge a 42 with g | g
      · skip
        have e : a = 41 := by omega
        subst e
        rw [zPr (l := [some 49, some 55, some 61, some 67, some 73, some 79, some 85, some 91, some 97, some 103]) (by decide) rfl]
        rw [zpu_same, zPm_out (by decide), zpu_same, zPm_out (by decide), zpu_same, zPm_out (by decide), zpu_same, zPm_out (by decide), zpu_same, zPm_out (by decide), zpu_same, zPm_out (by decide), zpu_same, zPm_out (by decide), zpu_same, zPm_out (by decide), zpu_same, zPm_out (by decide), zpu_same, zPm_out (by decide), zpu_ne (by decide), zPm_out (by decide), zpu_ne (by decide), (hc 41 (by decide)).2.2]
        funext j
        match j with
        | 0 => rfl
        | 1 => rfl
        | 2 => rfl
        | 3 => rfl
        | 4 => rfl
        | 5 => rfl
        | 6 => rfl
        | 7 => rfl
        | 8 => rfl
        | 9 => rfl
        | j + 10 => rfl
      · skip
        rcases Nat.lt_or_ge a 49 with g | g
        · skip
          rw [zpu_ne (by omega), zPm_out (by omega), zpu_ne (by omega), zPm_out (by omega), zpu_ne (by omega), zPm_out (by omega), zpu_ne (by omega), zPm_out (by omega), zpu_ne (by omega), zPm_out (by omega), zpu_ne (by omega), zPm_out (by omega), zpu_ne (by omega), zPm_out (by omega), zpu_ne (by omega), zPm_out (by omega), zpu_ne (by omega), zPm_out (by omega), zpu_ne (by omega), zPm_out (by omega), zpu_ne (by omega), zPm_in (by omega)]
        · skip
          rcases Nat.lt_or_ge a 55 with g | g
          · skip
            rw [zpu_ne (by omega), zPm_out (by omega), zpu_ne (by omega), zPm_out (by omega), zpu_ne (by omega), zPm_out (by omega), zpu_ne (by omega), zPm_out (by omega), zpu_ne (by omega), zPm_out (by omega), zpu_ne (by omega), zPm_out (by omega), zpu_ne (by omega), zPm_out (by omega), zpu_ne (by omega), zPm_out (by omega), zpu_ne (by omega), zPm_out (by omega), zpu_ne (by omega), zPm_in (by omega)]
          · skip
            rcases Nat.lt_or_ge a 61 with g | g
            · skip
              rw [zpu_ne (by omega), zPm_out (by omega), zpu_ne (by omega), zPm_out (by omega), zpu_ne (by omega), zPm_out (by omega), zpu_ne (by omega), zPm_out (by omega), zpu_ne (by omega), zPm_out (by omega), zpu_ne (by omega), zPm_out (by omega), zpu_ne (by omega), zPm_out (by omega), zpu_ne (by omega), zPm_out (by omega), zpu_ne (by omega), zPm_in (by omega)]
            · skip
              rcases Nat.lt_or_ge a 67 with g | g
              · skip
                rw [zpu_ne (by omega), zPm_out (by omega), zpu_ne (by omega), zPm_out (by omega), zpu_ne (by omega), zPm_out (by omega), zpu_ne (by omega), zPm_out (by omega), zpu_ne (by omega), zPm_out (by omega), zpu_ne (by omega), zPm_out (by omega), zpu_ne (by omega), zPm_out (by omega), zpu_ne (by omega), zPm_in (by omega)]
              · skip
                rcases Nat.lt_or_ge a 73 with g | g
                · skip
                  rw [zpu_ne (by omega), zPm_out (by omega), zpu_ne (by omega), zPm_out (by omega), zpu_ne (by omega), zPm_out (by omega), zpu_ne (by omega), zPm_out (by omega), zpu_ne (by omega), zPm_out (by omega), zpu_ne (by omega), zPm_out (by omega), zpu_ne (by omega), zPm_in (by omega)]
                · skip
                  rcases Nat.lt_or_ge a 79 with g | g
                  · skip
                    rw [zpu_ne (by omega), zPm_out (by omega), zpu_ne (by omega), zPm_out (by omega), zpu_ne (by omega), zPm_out (by omega), zpu_ne (by omega), zPm_out (by omega), zpu_ne (by omega), zPm_out (by omega), zpu_ne (by omega), zPm_in (by omega)]
                  · skip
                    rcases Nat.lt_or_ge a 85 with g | g
                    · skip
                      rw [zpu_ne (by omega), zPm_out (by omega), zpu_ne (by omega), zPm_out (by omega), zpu_ne (by omega), zPm_out (by omega), zpu_ne (by omega), zPm_out (by omega), zpu_ne (by omega), zPm_in (by omega)]
                    · skip
                      rcases Nat.lt_or_ge a 91 with g | g
                      · skip
                        rw [zpu_ne (by omega), zPm_out (by omega), zpu_ne (by omega), zPm_out (by omega), zpu_ne (by omega), zPm_out (by omega), zpu_ne (by omega), zPm_in (by omega)]
                      · skip
                        rcases Nat.lt_or_ge a 97 with g | g
                        · skip
                          rw [zpu_ne (by omega), zPm_out (by omega), zpu_ne (by omega), zPm_out (by omega), zpu_ne (by omega), zPm_in (by omega)]
                        · skip
                          rcases Nat.lt_or_ge a 103 with g | g
                          · skip
                            rw [zpu_ne (by omega), zPm_out (by omega), zpu_ne (by omega), zPm_in (by omega)]
                          · skip
                            rw [zpu_ne (by omega), zPm_in (by omega)]
    · skip
      rw [zPr (l := [some 41, some 42]) (by decide) rfl]
      rw [zpu_ne (by decide), zPm_out (by decide), zpu_ne (by decide), zPm_out (by decide), zpu_ne (by decide), zPm_out (by decide), zpu_ne (by decide), zPm_out (by decide), zpu_ne (by decide), zPm_out (by decide), zpu_ne (by decide), zPm_out (by decide), zpu_ne (by decide), zPm_out (by decide), zpu_ne (by decide), zPm_out (by decide), zpu_ne (by decide), zPm_out (by decide), zpu_ne (by decide), zPm_out (by decide), zpu_same, zPm_out (by decide), zpu_same, (hc 40 (by decide)).2.2]
      funext j
      match j with
      | 0 => rfl
      | 1 => rfl
      | j + 2 => rfl
    · rw [zpu_ne (by omega), zPm_out (by omega), zpu_ne (by omega), zPm_out (by omega), zpu_ne (by omega), zPm_out (by omega), zpu_ne (by omega), zPm_out (by omega), zpu_ne (by omega), zPm_out (by omega), zpu_ne (by omega), zPm_out (by omega), zpu_ne (by omega), zPm_out (by omega), zpu_ne (by omega), zPm_out (by omega), zpu_ne (by omega), zPm_out (by omega), zpu_ne (by omega), zPm_out (by omega), zpu_ne (by omega), zPm_out (by omega), zpu_ne (by omega)]
  have c0 : zcln 41 I J P := zcln_le hc (by decide)
  have c1 : zcln 42 I J (zpu P 40 0 (some 41)) := zcln_wP (zcln_le c0 (by decide)) (by decide)
  have c2 : zcln 49 I J (zPm (zpu P 40 0 (some 41)) 42 49) := zcln_Pm c1 (by decide)
  have c3 : zcln 49 I J (zpu (zPm (zpu P 40 0 (some 41)) 42 49) 40 1 (some 42)) := zcln_wP c2 (by decide)
  have c4 : zcln 55 I J (zPm (zpu (zPm (zpu P 40 0 (some 41)) 42 49) 40 1 (some 42)) 49 55) := zcln_Pm c3 (by decide)
  have c5 : zcln 55 I J (zpu (zPm (zpu (zPm (zpu P 40 0 (some 41)) 42 49) 40 1 (some 42)) 49 55) 41 0 (some 49)) := zcln_wP c4 (by decide)
  have c6 : zcln 61 I J (zPm (zpu (zPm (zpu (zPm (zpu P 40 0 (some 41)) 42 49) 40 1 (some 42)) 49 55) 41 0 (some 49)) 55 61) := zcln_Pm c5 (by decide)
  have c7 : zcln 61 I J (zpu (zPm (zpu (zPm (zpu (zPm (zpu P 40 0 (some 41)) 42 49) 40 1 (some 42)) 49 55) 41 0 (some 49)) 55 61) 41 1 (some 55)) := zcln_wP c6 (by decide)
  have c8 : zcln 67 I J (zPm (zpu (zPm (zpu (zPm (zpu (zPm (zpu P 40 0 (some 41)) 42 49) 40 1 (some 42)) 49 55) 41 0 (some 49)) 55 61) 41 1 (some 55)) 61 67) := zcln_Pm c7 (by decide)
  have c9 : zcln 67 I J (zpu (zPm (zpu (zPm (zpu (zPm (zpu (zPm (zpu P 40 0 (some 41)) 42 49) 40 1 (some 42)) 49 55) 41 0 (some 49)) 55 61) 41 1 (some 55)) 61 67) 41 2 (some 61)) := zcln_wP c8 (by decide)
  have c10 : zcln 73 I J (zPm (zpu (zPm (zpu (zPm (zpu (zPm (zpu (zPm (zpu P 40 0 (some 41)) 42 49) 40 1 (some 42)) 49 55) 41 0 (some 49)) 55 61) 41 1 (some 55)) 61 67) 41 2 (some 61)) 67 73) := zcln_Pm c9 (by decide)
  have c11 : zcln 73 I J (zpu (zPm (zpu (zPm (zpu (zPm (zpu (zPm (zpu (zPm (zpu P 40 0 (some 41)) 42 49) 40 1 (some 42)) 49 55) 41 0 (some 49)) 55 61) 41 1 (some 55)) 61 67) 41 2 (some 61)) 67 73) 41 3 (some 67)) := zcln_wP c10 (by decide)
  have c12 : zcln 79 I J (zPm (zpu (zPm (zpu (zPm (zpu (zPm (zpu (zPm (zpu (zPm (zpu P 40 0 (some 41)) 42 49) 40 1 (some 42)) 49 55) 41 0 (some 49)) 55 61) 41 1 (some 55)) 61 67) 41 2 (some 61)) 67 73) 41 3 (some 67)) 73 79) := zcln_Pm c11 (by decide)
  have c13 : zcln 79 I J (zpu (zPm (zpu (zPm (zpu (zPm (zpu (zPm (zpu (zPm (zpu (zPm (zpu P 40 0 (some 41)) 42 49) 40 1 (some 42)) 49 55) 41 0 (some 49)) 55 61) 41 1 (some 55)) 61 67) 41 2 (some 61)) 67 73) 41 3 (some 67)) 73 79) 41 4 (some 73)) := zcln_wP c12 (by decide)
  have c14 : zcln 85 I J (zPm (zpu (zPm (zpu (zPm (zpu (zPm (zpu (zPm (zpu (zPm (zpu (zPm (zpu P 40 0 (some 41)) 42 49) 40 1 (some 42)) 49 55) 41 0 (some 49)) 55 61) 41 1 (some 55)) 61 67) 41 2 (some 61)) 67 73) 41 3 (some 67)) 73 79) 41 4 (some 73)) 79 85) := zcln_Pm c13 (by decide)
  have c15 : zcln 85 I J (zpu (zPm (zpu (zPm (zpu (zPm (zpu (zPm (zpu (zPm (zpu (zPm (zpu (zPm (zpu P 40 0 (some 41)) 42 49) 40 1 (some 42)) 49 55) 41 0 (some 49)) 55 61) 41 1 (some 55)) 61 67) 41 2 (some 61)) 67 73) 41 3 (some 67)) 73 79) 41 4 (some 73)) 79 85) 41 5 (some 79)) := zcln_wP c14 (by decide)
  have c16 : zcln 91 I J (zPm (zpu (zPm (zpu (zPm (zpu (zPm (zpu (zPm (zpu (zPm (zpu (zPm (zpu (zPm (zpu P 40 0 (some 41)) 42 49) 40 1 (some 42)) 49 55) 41 0 (some 49)) 55 61) 41 1 (some 55)) 61 67) 41 2 (some 61)) 67 73) 41 3 (some 67)) 73 79) 41 4 (some 73)) 79 85) 41 5 (some 79)) 85 91) := zcln_Pm c15 (by decide)
  have c17 : zcln 91 I J (zpu (zPm (zpu (zPm (zpu (zPm (zpu (zPm (zpu (zPm (zpu (zPm (zpu (zPm (zpu (zPm (zpu P 40 0 (some 41)) 42 49) 40 1 (some 42)) 49 55) 41 0 (some 49)) 55 61) 41 1 (some 55)) 61 67) 41 2 (some 61)) 67 73) 41 3 (some 67)) 73 79) 41 4 (some 73)) 79 85) 41 5 (some 79)) 85 91) 41 6 (some 85)) := zcln_wP c16 (by decide)
  have c18 : zcln 97 I J (zPm (zpu (zPm (zpu (zPm (zpu (zPm (zpu (zPm (zpu (zPm (zpu (zPm (zpu (zPm (zpu (zPm (zpu P 40 0 (some 41)) 42 49) 40 1 (some 42)) 49 55) 41 0 (some 49)) 55 61) 41 1 (some 55)) 61 67) 41 2 (some 61)) 67 73) 41 3 (some 67)) 73 79) 41 4 (some 73)) 79 85) 41 5 (some 79)) 85 91) 41 6 (some 85)) 91 97) := zcln_Pm c17 (by decide)
  have c19 : zcln 97 I J (zpu (zPm (zpu (zPm (zpu (zPm (zpu (zPm (zpu (zPm (zpu (zPm (zpu (zPm (zpu (zPm (zpu (zPm (zpu P 40 0 (some 41)) 42 49) 40 1 (some 42)) 49 55) 41 0 (some 49)) 55 61) 41 1 (some 55)) 61 67) 41 2 (some 61)) 67 73) 41 3 (some 67)) 73 79) 41 4 (some 73)) 79 85) 41 5 (some 79)) 85 91) 41 6 (some 85)) 91 97) 41 7 (some 91)) := zcln_wP c18 (by decide)
  have c20 : zcln 103 I J (zPm (zpu (zPm (zpu (zPm (zpu (zPm (zpu (zPm (zpu (zPm (zpu (zPm (zpu (zPm (zpu (zPm (zpu (zPm (zpu P 40 0 (some 41)) 42 49) 40 1 (some 42)) 49 55) 41 0 (some 49)) 55 61) 41 1 (some 55)) 61 67) 41 2 (some 61)) 67 73) 41 3 (some 67)) 73 79) 41 4 (some 73)) 79 85) 41 5 (some 79)) 85 91) 41 6 (some 85)) 91 97) 41 7 (some 91)) 97 103) := zcln_Pm c19 (by decide)
  have c21 : zcln 103 I J (zpu (zPm (zpu (zPm (zpu (zPm (zpu (zPm (zpu (zPm (zpu (zPm (zpu (zPm (zpu (zPm (zpu (zPm (zpu (zPm (zpu P 40 0 (some 41)) 42 49) 40 1 (some 42)) 49 55) 41 0 (some 49)) 55 61) 41 1 (some 55)) 61 67) 41 2 (some 61)) 67 73) 41 3 (some 67)) 73 79) 41 4 (some 73)) 79 85) 41 5 (some 79)) 85 91) 41 6 (some 85)) 91 97) 41 7 (some 91)) 97 103) 41 8 (some 97)) := zcln_wP c20 (by decide)
  have c22 : zcln 109 I J (zPm (zpu (zPm (zpu (zPm (zpu (zPm (zpu (zPm (zpu (zPm (zpu (zPm (zpu (zPm (zpu (zPm (zpu (zPm (zpu (zPm (zpu P 40 0 (some 41)) 42 49) 40 1 (some 42)) 49 55) 41 0 (some 49)) 55 61) 41 1 (some 55)) 61 67) 41 2 (some 61)) 67 73) 41 3 (some 67)) 73 79) 41 4 (some 73)) 79 85) 41 5 (some 79)) 85 91) 41 6 (some 85)) 91 97) 41 7 (some 91)) 97 103) 41 8 (some 97)) 103 109) := zcln_Pm c21 (by decide)
  have c23 : zcln 109 I J (zpu (zPm (zpu (zPm (zpu (zPm (zpu (zPm (zpu (zPm (zpu (zPm (zpu (zPm (zpu (zPm (zpu (zPm (zpu (zPm (zpu (zPm (zpu P 40 0 (some 41)) 42 49) 40 1 (some 42)) 49 55) 41 0 (some 49)) 55 61) 41 1 (some 55)) 61 67) 41 2 (some 61)) 67 73) 41 3 (some 67)) 73 79) 41 4 (some 73)) 79 85) 41 5 (some 79)) 85 91) 41 6 (some 85)) 91 97) 41 7 (some 91)) 97 103) 41 8 (some 97)) 103 109) 41 9 (some 103)) := zcln_wP c22 (by decide)
  rw [zg_Cover_init_0_e, show Int32.toNatClampNeg 10 = 10 from rfl, if_neg (by decide), zK_mk (n := 41) rfl c0, zK_ob (a := 40) (c := 1) (by decide) rfl, zK_len (n := 41) (by decide), zK_wP, zK_mk (n := 42) rfl c1, zK_len (n := 42) (by decide), zK_ob (a := 42) (c := 2) (by decide) rfl, zi_Fit_42 X c1, zcv, zK_ob (a := 40) (c := 1) (by decide) rfl, zK_wP, zi_Cv_49 X c3 rfl, zi_Cv_55 X c5 rfl, zi_Cv_61 X c7 rfl, zi_Cv_67 X c9 rfl, zi_Cv_73 X c11 rfl, zi_Cv_79 X c13 rfl, zi_Cv_85 X c15 rfl, zi_Cv_91 X c17 rfl, zi_Cv_97 X c19 rfl, zi_Cv_103 X c21 rfl, zg_Cover_init_26_e, if_pos (by decide), zg_Cover_init_58_e, hE]
theorem zi_Fit_111 (X : zv_X) {I : zI} {J : zJ} {P : zPP} (hc : zcln 111 I J P) : zg_Fit_init_0 X 111 (zK 112 I J P) = some (none, zK 118 I J (zPm P 111 118)) := by
  have hE : zpu (zPm (zpu (zPm P 112 115) 111 0 (some 112)) 115 118) 111 1 (some 115) = zPm P 111 118 := by
    refine zPm_mk (fun a h1 h2 => ?_) ?_ (fun a ha => ?_)
    · skip
      rcases Nat.lt_or_ge a 115 with g | g
      · skip
        rw [zpu_ne (by omega), zPm_out (by omega), zpu_ne (by omega), zPm_in (by omega)]
      · skip
        rw [zpu_ne (by omega), zPm_in (by omega)]
    · skip
      rw [zPr (l := [some 112, some 115]) (by decide) rfl]
      rw [zpu_same, zPm_out (by decide), zpu_same, zPm_out (by decide), (hc 111 (by decide)).2.2]
      funext j
      match j with
      | 0 => rfl
      | 1 => rfl
      | j + 2 => rfl
    · rw [zpu_ne (by omega), zPm_out (by omega), zpu_ne (by omega), zPm_out (by omega)]
  have c0 : zcln 112 I J P := zcln_le hc (by decide)
  have c1 : zcln 115 I J (zPm P 112 115) := zcln_Pm c0 (by decide)
  have c2 : zcln 115 I J (zpu (zPm P 112 115) 111 0 (some 112)) := zcln_wP c1 (by decide)
  have c3 : zcln 118 I J (zPm (zpu (zPm P 112 115) 111 0 (some 112)) 115 118) := zcln_Pm c2 (by decide)
  have c4 : zcln 118 I J (zpu (zPm (zpu (zPm P 112 115) 111 0 (some 112)) 115 118) 111 1 (some 115)) := zcln_wP c3 (by decide)
  rw [zg_Fit_init_0_e, zK_mk (n := 112) rfl c0, zK_len (n := 112) (by decide), zK_ob (a := 112) (c := 7) (by decide) rfl, zi_Side_112 X c0, zcv, zK_ob (a := 111) (c := 2) (by decide) rfl, zK_wP, zK_mk (n := 115) rfl c2, zK_len (n := 115) (by decide), zK_ob (a := 115) (c := 7) (by decide) rfl, zi_Side_115 X c2, zcv, zK_ob (a := 111) (c := 2) (by decide) rfl, zK_wP, hE]
theorem zi_Level_118 (X : zv_X) {I : zI} {J : zJ} {P : zPP} (hc : zcln 118 I J P) : zg_Level_init_0 X 118 302 (zK 119 I J P) = some (none, zK 124 I J (zPm P 118 124)) := by
  have hE : zpu (zpu (zpu (zpu (zpu P 118 0 (some 119)) 118 4 (some 120)) 118 5 (some 121)) 118 6 (some 122)) 118 7 (some 123) = zPm P 118 124 := by
    refine zPm_mk (fun a h1 h2 => ?_) ?_ (fun a ha => ?_)
    · skip
      rcases Nat.lt_or_ge a 120 with g | g
      · skip
        have e : a = 119 := by omega
        subst e
        rw [zpu_ne (by decide), zpu_ne (by decide), zpu_ne (by decide), zpu_ne (by decide), zpu_ne (by decide), (hc 119 (by decide)).2.2]
        exact (zPr0 (by decide) rfl).symm
      · skip
        rcases Nat.lt_or_ge a 121 with g | g
        · skip
          have e : a = 120 := by omega
          subst e
          rw [zpu_ne (by decide), zpu_ne (by decide), zpu_ne (by decide), zpu_ne (by decide), zpu_ne (by decide), (hc 120 (by decide)).2.2]
          exact (zPr0 (by decide) rfl).symm
        · skip
          rcases Nat.lt_or_ge a 122 with g | g
          · skip
            have e : a = 121 := by omega
            subst e
            rw [zpu_ne (by decide), zpu_ne (by decide), zpu_ne (by decide), zpu_ne (by decide), zpu_ne (by decide), (hc 121 (by decide)).2.2]
            exact (zPr0 (by decide) rfl).symm
          · skip
            rcases Nat.lt_or_ge a 123 with g | g
            · skip
              have e : a = 122 := by omega
              subst e
              rw [zpu_ne (by decide), zpu_ne (by decide), zpu_ne (by decide), zpu_ne (by decide), zpu_ne (by decide), (hc 122 (by decide)).2.2]
              exact (zPr0 (by decide) rfl).symm
            · skip
              have e : a = 123 := by omega
              subst e
              rw [zpu_ne (by decide), zpu_ne (by decide), zpu_ne (by decide), zpu_ne (by decide), zpu_ne (by decide), (hc 123 (by decide)).2.2]
              exact (zPr0 (by decide) rfl).symm
    · skip
      rw [zPr (l := [some 119, none, none, none, some 120, some 121, some 122, some 123]) (by decide) rfl]
      rw [zpu_same, zpu_same, zpu_same, zpu_same, zpu_same, (hc 118 (by decide)).2.2]
      funext j
      match j with
      | 0 => rfl
      | 1 => rfl
      | 2 => rfl
      | 3 => rfl
      | 4 => rfl
      | 5 => rfl
      | 6 => rfl
      | 7 => rfl
      | j + 8 => rfl
    · rw [zpu_ne (by omega), zpu_ne (by omega), zpu_ne (by omega), zpu_ne (by omega), zpu_ne (by omega)]
  have c0 : zcln 119 I J P := zcln_le hc (by decide)
  have c1 : zcln 120 I J (zpu P 118 0 (some 119)) := zcln_wP (zcln_le c0 (by decide)) (by decide)
  have c2 : zcln 121 I J (zpu (zpu P 118 0 (some 119)) 118 4 (some 120)) := zcln_wP (zcln_le c1 (by decide)) (by decide)
  have c3 : zcln 122 I J (zpu (zpu (zpu P 118 0 (some 119)) 118 4 (some 120)) 118 5 (some 121)) := zcln_wP (zcln_le c2 (by decide)) (by decide)
  have c4 : zcln 123 I J (zpu (zpu (zpu (zpu P 118 0 (some 119)) 118 4 (some 120)) 118 5 (some 121)) 118 6 (some 122)) := zcln_wP (zcln_le c3 (by decide)) (by decide)
  have c5 : zcln 124 I J (zpu (zpu (zpu (zpu (zpu P 118 0 (some 119)) 118 4 (some 120)) 118 5 (some 121)) 118 6 (some 122)) 118 7 (some 123)) := zcln_wP (zcln_le c4 (by decide)) (by decide)
  rw [zg_Level_init_0_e, show (302 : Int32) / 2 + 1 = 152 from by decide, show Int32.toNatClampNeg 302 = 302 from rfl, show Int32.toNatClampNeg 152 = 152 from rfl, if_neg (by decide), zK_mk (n := 119) rfl c0, zK_ob (a := 118) (c := 5) (by decide) rfl, zK_len (n := 119) (by decide), zK_wP, if_neg (by decide), if_neg (by decide), zK_mk (n := 120) rfl c1, zK_ob (a := 118) (c := 5) (by decide) rfl, zK_len (n := 120) (by decide), zK_wP, if_neg (by decide), zK_mk (n := 121) rfl c2, zK_ob (a := 118) (c := 5) (by decide) rfl, zK_len (n := 121) (by decide), zK_wP, if_neg (by decide), zK_mk (n := 122) rfl c3, zK_ob (a := 118) (c := 5) (by decide) rfl, zK_len (n := 122) (by decide), zK_wP, if_neg (by decide), zK_mk (n := 123) rfl c4, zK_ob (a := 118) (c := 5) (by decide) rfl, zK_len (n := 123) (by decide), zK_wP, hE]
theorem zi_Cv_118 (X : zv_X) {I : zI} {J : zJ} {P : zPP} (hc : zcln 118 I J P) (hp : P 109 0 = some 110) : zg_Cover_init_26 X 109 0 (zK 118 I J P) = zg_Cover_init_26 X 109 1 (zK 124 I J (zpu (zPm P 118 124) 110 0 (some 118))) := by
  have hx := fun (I : zI) (J : zJ) (P : zPP) (k : Nat → Option zv_R) => (show zv_ix (zK 124 I J P) 4 110 (0 : Int32) k = k 0 from zK_ix (n := 124) (a := 110) (t := 4) (m := 10) (j := 0) (by decide) rfl (by decide) (by decide))
  rw [zg_Cover_init_26_e, if_neg (by decide), zK_ob (a := 109) (c := 1) (by decide) rfl, zK_P, hp, zrf, zK_mk (n := 118) rfl hc, zK_len (n := 118) (by decide), zK_ob (a := 118) (c := 5) (by decide) rfl, show (300 >>> ((0 : Int32) &&& 31)) + 2 = (302 : Int32) from by decide, zi_Level_118 X hc, zcv, hx, zK_ob (a := 118) (c := 5) (by decide) rfl, zK_wP, show (0 : Int32) + 1 = 1 from by decide]
theorem zi_Level_124 (X : zv_X) {I : zI} {J : zJ} {P : zPP} (hc : zcln 124 I J P) : zg_Level_init_0 X 124 152 (zK 125 I J P) = some (none, zK 130 I J (zPm P 124 130)) := by
  have hE : zpu (zpu (zpu (zpu (zpu P 124 0 (some 125)) 124 4 (some 126)) 124 5 (some 127)) 124 6 (some 128)) 124 7 (some 129) = zPm P 124 130 := by
    refine zPm_mk (fun a h1 h2 => ?_) ?_ (fun a ha => ?_)
    · skip
      rcases Nat.lt_or_ge a 126 with g | g
      · skip
        have e : a = 125 := by omega
        subst e
        rw [zpu_ne (by decide), zpu_ne (by decide), zpu_ne (by decide), zpu_ne (by decide), zpu_ne (by decide), (hc 125 (by decide)).2.2]
        exact (zPr0 (by decide) rfl).symm
      · skip
        rcases Nat.lt_or_ge a 127 with g | g
        · skip
          have e : a = 126 := by omega
          subst e
          rw [zpu_ne (by decide), zpu_ne (by decide), zpu_ne (by decide), zpu_ne (by decide), zpu_ne (by decide), (hc 126 (by decide)).2.2]
          exact (zPr0 (by decide) rfl).symm
        · skip
          rcases Nat.lt_or_ge a 128 with g | g
          · skip
            have e : a = 127 := by omega
            subst e
            rw [zpu_ne (by decide), zpu_ne (by decide), zpu_ne (by decide), zpu_ne (by decide), zpu_ne (by decide), (hc 127 (by decide)).2.2]
            exact (zPr0 (by decide) rfl).symm
          · skip
            rcases Nat.lt_or_ge a 129 with g | g
            · skip
              have e : a = 128 := by omega
              subst e
              rw [zpu_ne (by decide), zpu_ne (by decide), zpu_ne (by decide), zpu_ne (by decide), zpu_ne (by decide), (hc 128 (by decide)).2.2]
              exact (zPr0 (by decide) rfl).symm
            · skip
              have e : a = 129 := by omega
              subst e
              rw [zpu_ne (by decide), zpu_ne (by decide), zpu_ne (by decide), zpu_ne (by decide), zpu_ne (by decide), (hc 129 (by decide)).2.2]
              exact (zPr0 (by decide) rfl).symm
    · skip
      rw [zPr (l := [some 125, none, none, none, some 126, some 127, some 128, some 129]) (by decide) rfl]
      rw [zpu_same, zpu_same, zpu_same, zpu_same, zpu_same, (hc 124 (by decide)).2.2]
      funext j
      match j with
      | 0 => rfl
      | 1 => rfl
      | 2 => rfl
      | 3 => rfl
      | 4 => rfl
      | 5 => rfl
      | 6 => rfl
      | 7 => rfl
      | j + 8 => rfl
    · rw [zpu_ne (by omega), zpu_ne (by omega), zpu_ne (by omega), zpu_ne (by omega), zpu_ne (by omega)]
  have c0 : zcln 125 I J P := zcln_le hc (by decide)
  have c1 : zcln 126 I J (zpu P 124 0 (some 125)) := zcln_wP (zcln_le c0 (by decide)) (by decide)
  have c2 : zcln 127 I J (zpu (zpu P 124 0 (some 125)) 124 4 (some 126)) := zcln_wP (zcln_le c1 (by decide)) (by decide)
  have c3 : zcln 128 I J (zpu (zpu (zpu P 124 0 (some 125)) 124 4 (some 126)) 124 5 (some 127)) := zcln_wP (zcln_le c2 (by decide)) (by decide)
  have c4 : zcln 129 I J (zpu (zpu (zpu (zpu P 124 0 (some 125)) 124 4 (some 126)) 124 5 (some 127)) 124 6 (some 128)) := zcln_wP (zcln_le c3 (by decide)) (by decide)
  have c5 : zcln 130 I J (zpu (zpu (zpu (zpu (zpu P 124 0 (some 125)) 124 4 (some 126)) 124 5 (some 127)) 124 6 (some 128)) 124 7 (some 129)) := zcln_wP (zcln_le c4 (by decide)) (by decide)
  rw [zg_Level_init_0_e, show (152 : Int32) / 2 + 1 = 77 from by decide, show Int32.toNatClampNeg 152 = 152 from rfl, show Int32.toNatClampNeg 77 = 77 from rfl, if_neg (by decide), zK_mk (n := 125) rfl c0, zK_ob (a := 124) (c := 5) (by decide) rfl, zK_len (n := 125) (by decide), zK_wP, if_neg (by decide), if_neg (by decide), zK_mk (n := 126) rfl c1, zK_ob (a := 124) (c := 5) (by decide) rfl, zK_len (n := 126) (by decide), zK_wP, if_neg (by decide), zK_mk (n := 127) rfl c2, zK_ob (a := 124) (c := 5) (by decide) rfl, zK_len (n := 127) (by decide), zK_wP, if_neg (by decide), zK_mk (n := 128) rfl c3, zK_ob (a := 124) (c := 5) (by decide) rfl, zK_len (n := 128) (by decide), zK_wP, if_neg (by decide), zK_mk (n := 129) rfl c4, zK_ob (a := 124) (c := 5) (by decide) rfl, zK_len (n := 129) (by decide), zK_wP, hE]
theorem zi_Cv_124 (X : zv_X) {I : zI} {J : zJ} {P : zPP} (hc : zcln 124 I J P) (hp : P 109 0 = some 110) : zg_Cover_init_26 X 109 1 (zK 124 I J P) = zg_Cover_init_26 X 109 2 (zK 130 I J (zpu (zPm P 124 130) 110 1 (some 124))) := by
  have hx := fun (I : zI) (J : zJ) (P : zPP) (k : Nat → Option zv_R) => (show zv_ix (zK 130 I J P) 4 110 (1 : Int32) k = k 1 from zK_ix (n := 130) (a := 110) (t := 4) (m := 10) (j := 1) (by decide) rfl (by decide) (by decide))
  rw [zg_Cover_init_26_e, if_neg (by decide), zK_ob (a := 109) (c := 1) (by decide) rfl, zK_P, hp, zrf, zK_mk (n := 124) rfl hc, zK_len (n := 124) (by decide), zK_ob (a := 124) (c := 5) (by decide) rfl, show (300 >>> ((1 : Int32) &&& 31)) + 2 = (152 : Int32) from by decide, zi_Level_124 X hc, zcv, hx, zK_ob (a := 124) (c := 5) (by decide) rfl, zK_wP, show (1 : Int32) + 1 = 2 from by decide]
theorem zi_Level_130 (X : zv_X) {I : zI} {J : zJ} {P : zPP} (hc : zcln 130 I J P) : zg_Level_init_0 X 130 77 (zK 131 I J P) = some (none, zK 136 I J (zPm P 130 136)) := by
  have hE : zpu (zpu (zpu (zpu (zpu P 130 0 (some 131)) 130 4 (some 132)) 130 5 (some 133)) 130 6 (some 134)) 130 7 (some 135) = zPm P 130 136 := by
    refine zPm_mk (fun a h1 h2 => ?_) ?_ (fun a ha => ?_)
    · skip
      rcases Nat.lt_or_ge a 132 with g | g
      · skip
        have e : a = 131 := by omega
        subst e
        rw [zpu_ne (by decide), zpu_ne (by decide), zpu_ne (by decide), zpu_ne (by decide), zpu_ne (by decide), (hc 131 (by decide)).2.2]
        exact (zPr0 (by decide) rfl).symm
      · skip
        rcases Nat.lt_or_ge a 133 with g | g
        · skip
          have e : a = 132 := by omega
          subst e
          rw [zpu_ne (by decide), zpu_ne (by decide), zpu_ne (by decide), zpu_ne (by decide), zpu_ne (by decide), (hc 132 (by decide)).2.2]
          exact (zPr0 (by decide) rfl).symm
        · skip
          rcases Nat.lt_or_ge a 134 with g | g
          · skip
            have e : a = 133 := by omega
            subst e
            rw [zpu_ne (by decide), zpu_ne (by decide), zpu_ne (by decide), zpu_ne (by decide), zpu_ne (by decide), (hc 133 (by decide)).2.2]
            exact (zPr0 (by decide) rfl).symm
          · skip
            rcases Nat.lt_or_ge a 135 with g | g
            · skip
              have e : a = 134 := by omega
              subst e
              rw [zpu_ne (by decide), zpu_ne (by decide), zpu_ne (by decide), zpu_ne (by decide), zpu_ne (by decide), (hc 134 (by decide)).2.2]
              exact (zPr0 (by decide) rfl).symm
            · skip
              have e : a = 135 := by omega
              subst e
              rw [zpu_ne (by decide), zpu_ne (by decide), zpu_ne (by decide), zpu_ne (by decide), zpu_ne (by decide), (hc 135 (by decide)).2.2]
              exact (zPr0 (by decide) rfl).symm
    · skip
      rw [zPr (l := [some 131, none, none, none, some 132, some 133, some 134, some 135]) (by decide) rfl]
      rw [zpu_same, zpu_same, zpu_same, zpu_same, zpu_same, (hc 130 (by decide)).2.2]
      funext j
      match j with
      | 0 => rfl
      | 1 => rfl
      | 2 => rfl
      | 3 => rfl
      | 4 => rfl
      | 5 => rfl
      | 6 => rfl
      | 7 => rfl
      | j + 8 => rfl
    · rw [zpu_ne (by omega), zpu_ne (by omega), zpu_ne (by omega), zpu_ne (by omega), zpu_ne (by omega)]
  have c0 : zcln 131 I J P := zcln_le hc (by decide)
  have c1 : zcln 132 I J (zpu P 130 0 (some 131)) := zcln_wP (zcln_le c0 (by decide)) (by decide)
  have c2 : zcln 133 I J (zpu (zpu P 130 0 (some 131)) 130 4 (some 132)) := zcln_wP (zcln_le c1 (by decide)) (by decide)
  have c3 : zcln 134 I J (zpu (zpu (zpu P 130 0 (some 131)) 130 4 (some 132)) 130 5 (some 133)) := zcln_wP (zcln_le c2 (by decide)) (by decide)
  have c4 : zcln 135 I J (zpu (zpu (zpu (zpu P 130 0 (some 131)) 130 4 (some 132)) 130 5 (some 133)) 130 6 (some 134)) := zcln_wP (zcln_le c3 (by decide)) (by decide)
  have c5 : zcln 136 I J (zpu (zpu (zpu (zpu (zpu P 130 0 (some 131)) 130 4 (some 132)) 130 5 (some 133)) 130 6 (some 134)) 130 7 (some 135)) := zcln_wP (zcln_le c4 (by decide)) (by decide)
  rw [zg_Level_init_0_e, show (77 : Int32) / 2 + 1 = 39 from by decide, show Int32.toNatClampNeg 77 = 77 from rfl, show Int32.toNatClampNeg 39 = 39 from rfl, if_neg (by decide), zK_mk (n := 131) rfl c0, zK_ob (a := 130) (c := 5) (by decide) rfl, zK_len (n := 131) (by decide), zK_wP, if_neg (by decide), if_neg (by decide), zK_mk (n := 132) rfl c1, zK_ob (a := 130) (c := 5) (by decide) rfl, zK_len (n := 132) (by decide), zK_wP, if_neg (by decide), zK_mk (n := 133) rfl c2, zK_ob (a := 130) (c := 5) (by decide) rfl, zK_len (n := 133) (by decide), zK_wP, if_neg (by decide), zK_mk (n := 134) rfl c3, zK_ob (a := 130) (c := 5) (by decide) rfl, zK_len (n := 134) (by decide), zK_wP, if_neg (by decide), zK_mk (n := 135) rfl c4, zK_ob (a := 130) (c := 5) (by decide) rfl, zK_len (n := 135) (by decide), zK_wP, hE]
theorem zi_Cv_130 (X : zv_X) {I : zI} {J : zJ} {P : zPP} (hc : zcln 130 I J P) (hp : P 109 0 = some 110) : zg_Cover_init_26 X 109 2 (zK 130 I J P) = zg_Cover_init_26 X 109 3 (zK 136 I J (zpu (zPm P 130 136) 110 2 (some 130))) := by
  have hx := fun (I : zI) (J : zJ) (P : zPP) (k : Nat → Option zv_R) => (show zv_ix (zK 136 I J P) 4 110 (2 : Int32) k = k 2 from zK_ix (n := 136) (a := 110) (t := 4) (m := 10) (j := 2) (by decide) rfl (by decide) (by decide))
  rw [zg_Cover_init_26_e, if_neg (by decide), zK_ob (a := 109) (c := 1) (by decide) rfl, zK_P, hp, zrf, zK_mk (n := 130) rfl hc, zK_len (n := 130) (by decide), zK_ob (a := 130) (c := 5) (by decide) rfl, show (300 >>> ((2 : Int32) &&& 31)) + 2 = (77 : Int32) from by decide, zi_Level_130 X hc, zcv, hx, zK_ob (a := 130) (c := 5) (by decide) rfl, zK_wP, show (2 : Int32) + 1 = 3 from by decide]
theorem zi_Level_136 (X : zv_X) {I : zI} {J : zJ} {P : zPP} (hc : zcln 136 I J P) : zg_Level_init_0 X 136 39 (zK 137 I J P) = some (none, zK 142 I J (zPm P 136 142)) := by
  have hE : zpu (zpu (zpu (zpu (zpu P 136 0 (some 137)) 136 4 (some 138)) 136 5 (some 139)) 136 6 (some 140)) 136 7 (some 141) = zPm P 136 142 := by
    refine zPm_mk (fun a h1 h2 => ?_) ?_ (fun a ha => ?_)
    · skip
      rcases Nat.lt_or_ge a 138 with g | g
      · skip
        have e : a = 137 := by omega
        subst e
        rw [zpu_ne (by decide), zpu_ne (by decide), zpu_ne (by decide), zpu_ne (by decide), zpu_ne (by decide), (hc 137 (by decide)).2.2]
        exact (zPr0 (by decide) rfl).symm
      · skip
        rcases Nat.lt_or_ge a 139 with g | g
        · skip
          have e : a = 138 := by omega
          subst e
          rw [zpu_ne (by decide), zpu_ne (by decide), zpu_ne (by decide), zpu_ne (by decide), zpu_ne (by decide), (hc 138 (by decide)).2.2]
          exact (zPr0 (by decide) rfl).symm
        · skip
          rcases Nat.lt_or_ge a 140 with g | g
          · skip
            have e : a = 139 := by omega
            subst e
            rw [zpu_ne (by decide), zpu_ne (by decide), zpu_ne (by decide), zpu_ne (by decide), zpu_ne (by decide), (hc 139 (by decide)).2.2]
            exact (zPr0 (by decide) rfl).symm
          · skip
            rcases Nat.lt_or_ge a 141 with g | g
            · skip
              have e : a = 140 := by omega
              subst e
              rw [zpu_ne (by decide), zpu_ne (by decide), zpu_ne (by decide), zpu_ne (by decide), zpu_ne (by decide), (hc 140 (by decide)).2.2]
              exact (zPr0 (by decide) rfl).symm
            · skip
              have e : a = 141 := by omega
              subst e
              rw [zpu_ne (by decide), zpu_ne (by decide), zpu_ne (by decide), zpu_ne (by decide), zpu_ne (by decide), (hc 141 (by decide)).2.2]
              exact (zPr0 (by decide) rfl).symm
    · skip
      rw [zPr (l := [some 137, none, none, none, some 138, some 139, some 140, some 141]) (by decide) rfl]
      rw [zpu_same, zpu_same, zpu_same, zpu_same, zpu_same, (hc 136 (by decide)).2.2]
      funext j
      match j with
      | 0 => rfl
      | 1 => rfl
      | 2 => rfl
      | 3 => rfl
      | 4 => rfl
      | 5 => rfl
      | 6 => rfl
      | 7 => rfl
      | j + 8 => rfl
    · rw [zpu_ne (by omega), zpu_ne (by omega), zpu_ne (by omega), zpu_ne (by omega), zpu_ne (by omega)]
  have c0 : zcln 137 I J P := zcln_le hc (by decide)
  have c1 : zcln 138 I J (zpu P 136 0 (some 137)) := zcln_wP (zcln_le c0 (by decide)) (by decide)
  have c2 : zcln 139 I J (zpu (zpu P 136 0 (some 137)) 136 4 (some 138)) := zcln_wP (zcln_le c1 (by decide)) (by decide)
  have c3 : zcln 140 I J (zpu (zpu (zpu P 136 0 (some 137)) 136 4 (some 138)) 136 5 (some 139)) := zcln_wP (zcln_le c2 (by decide)) (by decide)
  have c4 : zcln 141 I J (zpu (zpu (zpu (zpu P 136 0 (some 137)) 136 4 (some 138)) 136 5 (some 139)) 136 6 (some 140)) := zcln_wP (zcln_le c3 (by decide)) (by decide)
  have c5 : zcln 142 I J (zpu (zpu (zpu (zpu (zpu P 136 0 (some 137)) 136 4 (some 138)) 136 5 (some 139)) 136 6 (some 140)) 136 7 (some 141)) := zcln_wP (zcln_le c4 (by decide)) (by decide)
  rw [zg_Level_init_0_e, show (39 : Int32) / 2 + 1 = 20 from by decide, show Int32.toNatClampNeg 39 = 39 from rfl, show Int32.toNatClampNeg 20 = 20 from rfl, if_neg (by decide), zK_mk (n := 137) rfl c0, zK_ob (a := 136) (c := 5) (by decide) rfl, zK_len (n := 137) (by decide), zK_wP, if_neg (by decide), if_neg (by decide), zK_mk (n := 138) rfl c1, zK_ob (a := 136) (c := 5) (by decide) rfl, zK_len (n := 138) (by decide), zK_wP, if_neg (by decide), zK_mk (n := 139) rfl c2, zK_ob (a := 136) (c := 5) (by decide) rfl, zK_len (n := 139) (by decide), zK_wP, if_neg (by decide), zK_mk (n := 140) rfl c3, zK_ob (a := 136) (c := 5) (by decide) rfl, zK_len (n := 140) (by decide), zK_wP, if_neg (by decide), zK_mk (n := 141) rfl c4, zK_ob (a := 136) (c := 5) (by decide) rfl, zK_len (n := 141) (by decide), zK_wP, hE]
theorem zi_Cv_136 (X : zv_X) {I : zI} {J : zJ} {P : zPP} (hc : zcln 136 I J P) (hp : P 109 0 = some 110) : zg_Cover_init_26 X 109 3 (zK 136 I J P) = zg_Cover_init_26 X 109 4 (zK 142 I J (zpu (zPm P 136 142) 110 3 (some 136))) := by
  have hx := fun (I : zI) (J : zJ) (P : zPP) (k : Nat → Option zv_R) => (show zv_ix (zK 142 I J P) 4 110 (3 : Int32) k = k 3 from zK_ix (n := 142) (a := 110) (t := 4) (m := 10) (j := 3) (by decide) rfl (by decide) (by decide))
  rw [zg_Cover_init_26_e, if_neg (by decide), zK_ob (a := 109) (c := 1) (by decide) rfl, zK_P, hp, zrf, zK_mk (n := 136) rfl hc, zK_len (n := 136) (by decide), zK_ob (a := 136) (c := 5) (by decide) rfl, show (300 >>> ((3 : Int32) &&& 31)) + 2 = (39 : Int32) from by decide, zi_Level_136 X hc, zcv, hx, zK_ob (a := 136) (c := 5) (by decide) rfl, zK_wP, show (3 : Int32) + 1 = 4 from by decide]
theorem zi_Level_142 (X : zv_X) {I : zI} {J : zJ} {P : zPP} (hc : zcln 142 I J P) : zg_Level_init_0 X 142 20 (zK 143 I J P) = some (none, zK 148 I J (zPm P 142 148)) := by
  have hE : zpu (zpu (zpu (zpu (zpu P 142 0 (some 143)) 142 4 (some 144)) 142 5 (some 145)) 142 6 (some 146)) 142 7 (some 147) = zPm P 142 148 := by
    refine zPm_mk (fun a h1 h2 => ?_) ?_ (fun a ha => ?_)
    · skip
      rcases Nat.lt_or_ge a 144 with g | g
      · skip
        have e : a = 143 := by omega
        subst e
        rw [zpu_ne (by decide), zpu_ne (by decide), zpu_ne (by decide), zpu_ne (by decide), zpu_ne (by decide), (hc 143 (by decide)).2.2]
        exact (zPr0 (by decide) rfl).symm
      · skip
        rcases Nat.lt_or_ge a 145 with g | g
        · skip
          have e : a = 144 := by omega
          subst e
          rw [zpu_ne (by decide), zpu_ne (by decide), zpu_ne (by decide), zpu_ne (by decide), zpu_ne (by decide), (hc 144 (by decide)).2.2]
          exact (zPr0 (by decide) rfl).symm
        · skip
          rcases Nat.lt_or_ge a 146 with g | g
          · skip
            have e : a = 145 := by omega
            subst e
            rw [zpu_ne (by decide), zpu_ne (by decide), zpu_ne (by decide), zpu_ne (by decide), zpu_ne (by decide), (hc 145 (by decide)).2.2]
            exact (zPr0 (by decide) rfl).symm
          · skip
            rcases Nat.lt_or_ge a 147 with g | g
            · skip
              have e : a = 146 := by omega
              subst e
              rw [zpu_ne (by decide), zpu_ne (by decide), zpu_ne (by decide), zpu_ne (by decide), zpu_ne (by decide), (hc 146 (by decide)).2.2]
              exact (zPr0 (by decide) rfl).symm
            · skip
              have e : a = 147 := by omega
              subst e
              rw [zpu_ne (by decide), zpu_ne (by decide), zpu_ne (by decide), zpu_ne (by decide), zpu_ne (by decide), (hc 147 (by decide)).2.2]
              exact (zPr0 (by decide) rfl).symm
    · skip
      rw [zPr (l := [some 143, none, none, none, some 144, some 145, some 146, some 147]) (by decide) rfl]
      rw [zpu_same, zpu_same, zpu_same, zpu_same, zpu_same, (hc 142 (by decide)).2.2]
      funext j
      match j with
      | 0 => rfl
      | 1 => rfl
      | 2 => rfl
      | 3 => rfl
      | 4 => rfl
      | 5 => rfl
      | 6 => rfl
      | 7 => rfl
      | j + 8 => rfl
    · rw [zpu_ne (by omega), zpu_ne (by omega), zpu_ne (by omega), zpu_ne (by omega), zpu_ne (by omega)]
  have c0 : zcln 143 I J P := zcln_le hc (by decide)
  have c1 : zcln 144 I J (zpu P 142 0 (some 143)) := zcln_wP (zcln_le c0 (by decide)) (by decide)
  have c2 : zcln 145 I J (zpu (zpu P 142 0 (some 143)) 142 4 (some 144)) := zcln_wP (zcln_le c1 (by decide)) (by decide)
  have c3 : zcln 146 I J (zpu (zpu (zpu P 142 0 (some 143)) 142 4 (some 144)) 142 5 (some 145)) := zcln_wP (zcln_le c2 (by decide)) (by decide)
  have c4 : zcln 147 I J (zpu (zpu (zpu (zpu P 142 0 (some 143)) 142 4 (some 144)) 142 5 (some 145)) 142 6 (some 146)) := zcln_wP (zcln_le c3 (by decide)) (by decide)
  have c5 : zcln 148 I J (zpu (zpu (zpu (zpu (zpu P 142 0 (some 143)) 142 4 (some 144)) 142 5 (some 145)) 142 6 (some 146)) 142 7 (some 147)) := zcln_wP (zcln_le c4 (by decide)) (by decide)
  rw [zg_Level_init_0_e, show (20 : Int32) / 2 + 1 = 11 from by decide, show Int32.toNatClampNeg 20 = 20 from rfl, show Int32.toNatClampNeg 11 = 11 from rfl, if_neg (by decide), zK_mk (n := 143) rfl c0, zK_ob (a := 142) (c := 5) (by decide) rfl, zK_len (n := 143) (by decide), zK_wP, if_neg (by decide), if_neg (by decide), zK_mk (n := 144) rfl c1, zK_ob (a := 142) (c := 5) (by decide) rfl, zK_len (n := 144) (by decide), zK_wP, if_neg (by decide), zK_mk (n := 145) rfl c2, zK_ob (a := 142) (c := 5) (by decide) rfl, zK_len (n := 145) (by decide), zK_wP, if_neg (by decide), zK_mk (n := 146) rfl c3, zK_ob (a := 142) (c := 5) (by decide) rfl, zK_len (n := 146) (by decide), zK_wP, if_neg (by decide), zK_mk (n := 147) rfl c4, zK_ob (a := 142) (c := 5) (by decide) rfl, zK_len (n := 147) (by decide), zK_wP, hE]
theorem zi_Cv_142 (X : zv_X) {I : zI} {J : zJ} {P : zPP} (hc : zcln 142 I J P) (hp : P 109 0 = some 110) : zg_Cover_init_26 X 109 4 (zK 142 I J P) = zg_Cover_init_26 X 109 5 (zK 148 I J (zpu (zPm P 142 148) 110 4 (some 142))) := by
  have hx := fun (I : zI) (J : zJ) (P : zPP) (k : Nat → Option zv_R) => (show zv_ix (zK 148 I J P) 4 110 (4 : Int32) k = k 4 from zK_ix (n := 148) (a := 110) (t := 4) (m := 10) (j := 4) (by decide) rfl (by decide) (by decide))
  rw [zg_Cover_init_26_e, if_neg (by decide), zK_ob (a := 109) (c := 1) (by decide) rfl, zK_P, hp, zrf, zK_mk (n := 142) rfl hc, zK_len (n := 142) (by decide), zK_ob (a := 142) (c := 5) (by decide) rfl, show (300 >>> ((4 : Int32) &&& 31)) + 2 = (20 : Int32) from by decide, zi_Level_142 X hc, zcv, hx, zK_ob (a := 142) (c := 5) (by decide) rfl, zK_wP, show (4 : Int32) + 1 = 5 from by decide]
theorem zi_Level_148 (X : zv_X) {I : zI} {J : zJ} {P : zPP} (hc : zcln 148 I J P) : zg_Level_init_0 X 148 11 (zK 149 I J P) = some (none, zK 154 I J (zPm P 148 154)) := by
  have hE : zpu (zpu (zpu (zpu (zpu P 148 0 (some 149)) 148 4 (some 150)) 148 5 (some 151)) 148 6 (some 152)) 148 7 (some 153) = zPm P 148 154 := by
    refine zPm_mk (fun a h1 h2 => ?_) ?_ (fun a ha => ?_)
    · skip
      rcases Nat.lt_or_ge a 150 with g | g
      · skip
        have e : a = 149 := by omega
        subst e
        rw [zpu_ne (by decide), zpu_ne (by decide), zpu_ne (by decide), zpu_ne (by decide), zpu_ne (by decide), (hc 149 (by decide)).2.2]
        exact (zPr0 (by decide) rfl).symm
      · skip
        rcases Nat.lt_or_ge a 151 with g | g
        · skip
          have e : a = 150 := by omega
          subst e
          rw [zpu_ne (by decide), zpu_ne (by decide), zpu_ne (by decide), zpu_ne (by decide), zpu_ne (by decide), (hc 150 (by decide)).2.2]
          exact (zPr0 (by decide) rfl).symm
        · skip
          rcases Nat.lt_or_ge a 152 with g | g
          · skip
            have e : a = 151 := by omega
            subst e
            rw [zpu_ne (by decide), zpu_ne (by decide), zpu_ne (by decide), zpu_ne (by decide), zpu_ne (by decide), (hc 151 (by decide)).2.2]
            exact (zPr0 (by decide) rfl).symm
          · skip
            rcases Nat.lt_or_ge a 153 with g | g
            · skip
              have e : a = 152 := by omega
              subst e
              rw [zpu_ne (by decide), zpu_ne (by decide), zpu_ne (by decide), zpu_ne (by decide), zpu_ne (by decide), (hc 152 (by decide)).2.2]
              exact (zPr0 (by decide) rfl).symm
            · skip
              have e : a = 153 := by omega
              subst e
              rw [zpu_ne (by decide), zpu_ne (by decide), zpu_ne (by decide), zpu_ne (by decide), zpu_ne (by decide), (hc 153 (by decide)).2.2]
              exact (zPr0 (by decide) rfl).symm
    · skip
      rw [zPr (l := [some 149, none, none, none, some 150, some 151, some 152, some 153]) (by decide) rfl]
      rw [zpu_same, zpu_same, zpu_same, zpu_same, zpu_same, (hc 148 (by decide)).2.2]
      funext j
      match j with
      | 0 => rfl
      | 1 => rfl
      | 2 => rfl
      | 3 => rfl
      | 4 => rfl
      | 5 => rfl
      | 6 => rfl
      | 7 => rfl
      | j + 8 => rfl
    · rw [zpu_ne (by omega), zpu_ne (by omega), zpu_ne (by omega), zpu_ne (by omega), zpu_ne (by omega)]
  have c0 : zcln 149 I J P := zcln_le hc (by decide)
  have c1 : zcln 150 I J (zpu P 148 0 (some 149)) := zcln_wP (zcln_le c0 (by decide)) (by decide)
  have c2 : zcln 151 I J (zpu (zpu P 148 0 (some 149)) 148 4 (some 150)) := zcln_wP (zcln_le c1 (by decide)) (by decide)
  have c3 : zcln 152 I J (zpu (zpu (zpu P 148 0 (some 149)) 148 4 (some 150)) 148 5 (some 151)) := zcln_wP (zcln_le c2 (by decide)) (by decide)
  have c4 : zcln 153 I J (zpu (zpu (zpu (zpu P 148 0 (some 149)) 148 4 (some 150)) 148 5 (some 151)) 148 6 (some 152)) := zcln_wP (zcln_le c3 (by decide)) (by decide)
  have c5 : zcln 154 I J (zpu (zpu (zpu (zpu (zpu P 148 0 (some 149)) 148 4 (some 150)) 148 5 (some 151)) 148 6 (some 152)) 148 7 (some 153)) := zcln_wP (zcln_le c4 (by decide)) (by decide)
  rw [zg_Level_init_0_e, show (11 : Int32) / 2 + 1 = 6 from by decide, show Int32.toNatClampNeg 11 = 11 from rfl, show Int32.toNatClampNeg 6 = 6 from rfl, if_neg (by decide), zK_mk (n := 149) rfl c0, zK_ob (a := 148) (c := 5) (by decide) rfl, zK_len (n := 149) (by decide), zK_wP, if_neg (by decide), if_neg (by decide), zK_mk (n := 150) rfl c1, zK_ob (a := 148) (c := 5) (by decide) rfl, zK_len (n := 150) (by decide), zK_wP, if_neg (by decide), zK_mk (n := 151) rfl c2, zK_ob (a := 148) (c := 5) (by decide) rfl, zK_len (n := 151) (by decide), zK_wP, if_neg (by decide), zK_mk (n := 152) rfl c3, zK_ob (a := 148) (c := 5) (by decide) rfl, zK_len (n := 152) (by decide), zK_wP, if_neg (by decide), zK_mk (n := 153) rfl c4, zK_ob (a := 148) (c := 5) (by decide) rfl, zK_len (n := 153) (by decide), zK_wP, hE]
theorem zi_Cv_148 (X : zv_X) {I : zI} {J : zJ} {P : zPP} (hc : zcln 148 I J P) (hp : P 109 0 = some 110) : zg_Cover_init_26 X 109 5 (zK 148 I J P) = zg_Cover_init_26 X 109 6 (zK 154 I J (zpu (zPm P 148 154) 110 5 (some 148))) := by
  have hx := fun (I : zI) (J : zJ) (P : zPP) (k : Nat → Option zv_R) => (show zv_ix (zK 154 I J P) 4 110 (5 : Int32) k = k 5 from zK_ix (n := 154) (a := 110) (t := 4) (m := 10) (j := 5) (by decide) rfl (by decide) (by decide))
  rw [zg_Cover_init_26_e, if_neg (by decide), zK_ob (a := 109) (c := 1) (by decide) rfl, zK_P, hp, zrf, zK_mk (n := 148) rfl hc, zK_len (n := 148) (by decide), zK_ob (a := 148) (c := 5) (by decide) rfl, show (300 >>> ((5 : Int32) &&& 31)) + 2 = (11 : Int32) from by decide, zi_Level_148 X hc, zcv, hx, zK_ob (a := 148) (c := 5) (by decide) rfl, zK_wP, show (5 : Int32) + 1 = 6 from by decide]
theorem zi_Level_154 (X : zv_X) {I : zI} {J : zJ} {P : zPP} (hc : zcln 154 I J P) : zg_Level_init_0 X 154 6 (zK 155 I J P) = some (none, zK 160 I J (zPm P 154 160)) := by
  have hE : zpu (zpu (zpu (zpu (zpu P 154 0 (some 155)) 154 4 (some 156)) 154 5 (some 157)) 154 6 (some 158)) 154 7 (some 159) = zPm P 154 160 := by
    refine zPm_mk (fun a h1 h2 => ?_) ?_ (fun a ha => ?_)
    · skip
      rcases Nat.lt_or_ge a 156 with g | g
      · skip
        have e : a = 155 := by omega
        subst e
        rw [zpu_ne (by decide), zpu_ne (by decide), zpu_ne (by decide), zpu_ne (by decide), zpu_ne (by decide), (hc 155 (by decide)).2.2]
        exact (zPr0 (by decide) rfl).symm
      · skip
        rcases Nat.lt_or_ge a 157 with g | g
        · skip
          have e : a = 156 := by omega
          subst e
          rw [zpu_ne (by decide), zpu_ne (by decide), zpu_ne (by decide), zpu_ne (by decide), zpu_ne (by decide), (hc 156 (by decide)).2.2]
          exact (zPr0 (by decide) rfl).symm
        · skip
          rcases Nat.lt_or_ge a 158 with g | g
          · skip
            have e : a = 157 := by omega
            subst e
            rw [zpu_ne (by decide), zpu_ne (by decide), zpu_ne (by decide), zpu_ne (by decide), zpu_ne (by decide), (hc 157 (by decide)).2.2]
            exact (zPr0 (by decide) rfl).symm
          · skip
            rcases Nat.lt_or_ge a 159 with g | g
            · skip
              have e : a = 158 := by omega
              subst e
              rw [zpu_ne (by decide), zpu_ne (by decide), zpu_ne (by decide), zpu_ne (by decide), zpu_ne (by decide), (hc 158 (by decide)).2.2]
              exact (zPr0 (by decide) rfl).symm
            · skip
              have e : a = 159 := by omega
              subst e
              rw [zpu_ne (by decide), zpu_ne (by decide), zpu_ne (by decide), zpu_ne (by decide), zpu_ne (by decide), (hc 159 (by decide)).2.2]
              exact (zPr0 (by decide) rfl).symm
    · skip
      rw [zPr (l := [some 155, none, none, none, some 156, some 157, some 158, some 159]) (by decide) rfl]
      rw [zpu_same, zpu_same, zpu_same, zpu_same, zpu_same, (hc 154 (by decide)).2.2]
      funext j
      match j with
      | 0 => rfl
      | 1 => rfl
      | 2 => rfl
      | 3 => rfl
      | 4 => rfl
      | 5 => rfl
      | 6 => rfl
      | 7 => rfl
      | j + 8 => rfl
    · rw [zpu_ne (by omega), zpu_ne (by omega), zpu_ne (by omega), zpu_ne (by omega), zpu_ne (by omega)]
  have c0 : zcln 155 I J P := zcln_le hc (by decide)
  have c1 : zcln 156 I J (zpu P 154 0 (some 155)) := zcln_wP (zcln_le c0 (by decide)) (by decide)
  have c2 : zcln 157 I J (zpu (zpu P 154 0 (some 155)) 154 4 (some 156)) := zcln_wP (zcln_le c1 (by decide)) (by decide)
  have c3 : zcln 158 I J (zpu (zpu (zpu P 154 0 (some 155)) 154 4 (some 156)) 154 5 (some 157)) := zcln_wP (zcln_le c2 (by decide)) (by decide)
  have c4 : zcln 159 I J (zpu (zpu (zpu (zpu P 154 0 (some 155)) 154 4 (some 156)) 154 5 (some 157)) 154 6 (some 158)) := zcln_wP (zcln_le c3 (by decide)) (by decide)
  have c5 : zcln 160 I J (zpu (zpu (zpu (zpu (zpu P 154 0 (some 155)) 154 4 (some 156)) 154 5 (some 157)) 154 6 (some 158)) 154 7 (some 159)) := zcln_wP (zcln_le c4 (by decide)) (by decide)
  rw [zg_Level_init_0_e, show (6 : Int32) / 2 + 1 = 4 from by decide, show Int32.toNatClampNeg 6 = 6 from rfl, show Int32.toNatClampNeg 4 = 4 from rfl, if_neg (by decide), zK_mk (n := 155) rfl c0, zK_ob (a := 154) (c := 5) (by decide) rfl, zK_len (n := 155) (by decide), zK_wP, if_neg (by decide), if_neg (by decide), zK_mk (n := 156) rfl c1, zK_ob (a := 154) (c := 5) (by decide) rfl, zK_len (n := 156) (by decide), zK_wP, if_neg (by decide), zK_mk (n := 157) rfl c2, zK_ob (a := 154) (c := 5) (by decide) rfl, zK_len (n := 157) (by decide), zK_wP, if_neg (by decide), zK_mk (n := 158) rfl c3, zK_ob (a := 154) (c := 5) (by decide) rfl, zK_len (n := 158) (by decide), zK_wP, if_neg (by decide), zK_mk (n := 159) rfl c4, zK_ob (a := 154) (c := 5) (by decide) rfl, zK_len (n := 159) (by decide), zK_wP, hE]
theorem zi_Cv_154 (X : zv_X) {I : zI} {J : zJ} {P : zPP} (hc : zcln 154 I J P) (hp : P 109 0 = some 110) : zg_Cover_init_26 X 109 6 (zK 154 I J P) = zg_Cover_init_26 X 109 7 (zK 160 I J (zpu (zPm P 154 160) 110 6 (some 154))) := by
  have hx := fun (I : zI) (J : zJ) (P : zPP) (k : Nat → Option zv_R) => (show zv_ix (zK 160 I J P) 4 110 (6 : Int32) k = k 6 from zK_ix (n := 160) (a := 110) (t := 4) (m := 10) (j := 6) (by decide) rfl (by decide) (by decide))
  rw [zg_Cover_init_26_e, if_neg (by decide), zK_ob (a := 109) (c := 1) (by decide) rfl, zK_P, hp, zrf, zK_mk (n := 154) rfl hc, zK_len (n := 154) (by decide), zK_ob (a := 154) (c := 5) (by decide) rfl, show (300 >>> ((6 : Int32) &&& 31)) + 2 = (6 : Int32) from by decide, zi_Level_154 X hc, zcv, hx, zK_ob (a := 154) (c := 5) (by decide) rfl, zK_wP, show (6 : Int32) + 1 = 7 from by decide]
theorem zi_Level_160 (X : zv_X) {I : zI} {J : zJ} {P : zPP} (hc : zcln 160 I J P) : zg_Level_init_0 X 160 4 (zK 161 I J P) = some (none, zK 166 I J (zPm P 160 166)) := by
  have hE : zpu (zpu (zpu (zpu (zpu P 160 0 (some 161)) 160 4 (some 162)) 160 5 (some 163)) 160 6 (some 164)) 160 7 (some 165) = zPm P 160 166 := by
    refine zPm_mk (fun a h1 h2 => ?_) ?_ (fun a ha => ?_)
    · skip
      rcases Nat.lt_or_ge a 162 with g | g
      · skip
        have e : a = 161 := by omega
        subst e
        rw [zpu_ne (by decide), zpu_ne (by decide), zpu_ne (by decide), zpu_ne (by decide), zpu_ne (by decide), (hc 161 (by decide)).2.2]
        exact (zPr0 (by decide) rfl).symm
      · skip
        rcases Nat.lt_or_ge a 163 with g | g
        · skip
          have e : a = 162 := by omega
          subst e
          rw [zpu_ne (by decide), zpu_ne (by decide), zpu_ne (by decide), zpu_ne (by decide), zpu_ne (by decide), (hc 162 (by decide)).2.2]
          exact (zPr0 (by decide) rfl).symm
        · skip
          rcases Nat.lt_or_ge a 164 with g | g
          · skip
            have e : a = 163 := by omega
            subst e
            rw [zpu_ne (by decide), zpu_ne (by decide), zpu_ne (by decide), zpu_ne (by decide), zpu_ne (by decide), (hc 163 (by decide)).2.2]
            exact (zPr0 (by decide) rfl).symm
          · skip
            rcases Nat.lt_or_ge a 165 with g | g
            · skip
              have e : a = 164 := by omega
              subst e
              rw [zpu_ne (by decide), zpu_ne (by decide), zpu_ne (by decide), zpu_ne (by decide), zpu_ne (by decide), (hc 164 (by decide)).2.2]
              exact (zPr0 (by decide) rfl).symm
            · skip
              have e : a = 165 := by omega
              subst e
              rw [zpu_ne (by decide), zpu_ne (by decide), zpu_ne (by decide), zpu_ne (by decide), zpu_ne (by decide), (hc 165 (by decide)).2.2]
              exact (zPr0 (by decide) rfl).symm
    · skip
      rw [zPr (l := [some 161, none, none, none, some 162, some 163, some 164, some 165]) (by decide) rfl]
      rw [zpu_same, zpu_same, zpu_same, zpu_same, zpu_same, (hc 160 (by decide)).2.2]
      funext j
      match j with
      | 0 => rfl
      | 1 => rfl
      | 2 => rfl
      | 3 => rfl
      | 4 => rfl
      | 5 => rfl
      | 6 => rfl
      | 7 => rfl
      | j + 8 => rfl
    · rw [zpu_ne (by omega), zpu_ne (by omega), zpu_ne (by omega), zpu_ne (by omega), zpu_ne (by omega)]
  have c0 : zcln 161 I J P := zcln_le hc (by decide)
  have c1 : zcln 162 I J (zpu P 160 0 (some 161)) := zcln_wP (zcln_le c0 (by decide)) (by decide)
  have c2 : zcln 163 I J (zpu (zpu P 160 0 (some 161)) 160 4 (some 162)) := zcln_wP (zcln_le c1 (by decide)) (by decide)
  have c3 : zcln 164 I J (zpu (zpu (zpu P 160 0 (some 161)) 160 4 (some 162)) 160 5 (some 163)) := zcln_wP (zcln_le c2 (by decide)) (by decide)
  have c4 : zcln 165 I J (zpu (zpu (zpu (zpu P 160 0 (some 161)) 160 4 (some 162)) 160 5 (some 163)) 160 6 (some 164)) := zcln_wP (zcln_le c3 (by decide)) (by decide)
  have c5 : zcln 166 I J (zpu (zpu (zpu (zpu (zpu P 160 0 (some 161)) 160 4 (some 162)) 160 5 (some 163)) 160 6 (some 164)) 160 7 (some 165)) := zcln_wP (zcln_le c4 (by decide)) (by decide)
  rw [zg_Level_init_0_e, show (4 : Int32) / 2 + 1 = 3 from by decide, show Int32.toNatClampNeg 4 = 4 from rfl, show Int32.toNatClampNeg 3 = 3 from rfl, if_neg (by decide), zK_mk (n := 161) rfl c0, zK_ob (a := 160) (c := 5) (by decide) rfl, zK_len (n := 161) (by decide), zK_wP, if_neg (by decide), if_neg (by decide), zK_mk (n := 162) rfl c1, zK_ob (a := 160) (c := 5) (by decide) rfl, zK_len (n := 162) (by decide), zK_wP, if_neg (by decide), zK_mk (n := 163) rfl c2, zK_ob (a := 160) (c := 5) (by decide) rfl, zK_len (n := 163) (by decide), zK_wP, if_neg (by decide), zK_mk (n := 164) rfl c3, zK_ob (a := 160) (c := 5) (by decide) rfl, zK_len (n := 164) (by decide), zK_wP, if_neg (by decide), zK_mk (n := 165) rfl c4, zK_ob (a := 160) (c := 5) (by decide) rfl, zK_len (n := 165) (by decide), zK_wP, hE]
theorem zi_Cv_160 (X : zv_X) {I : zI} {J : zJ} {P : zPP} (hc : zcln 160 I J P) (hp : P 109 0 = some 110) : zg_Cover_init_26 X 109 7 (zK 160 I J P) = zg_Cover_init_26 X 109 8 (zK 166 I J (zpu (zPm P 160 166) 110 7 (some 160))) := by
  have hx := fun (I : zI) (J : zJ) (P : zPP) (k : Nat → Option zv_R) => (show zv_ix (zK 166 I J P) 4 110 (7 : Int32) k = k 7 from zK_ix (n := 166) (a := 110) (t := 4) (m := 10) (j := 7) (by decide) rfl (by decide) (by decide))
  rw [zg_Cover_init_26_e, if_neg (by decide), zK_ob (a := 109) (c := 1) (by decide) rfl, zK_P, hp, zrf, zK_mk (n := 160) rfl hc, zK_len (n := 160) (by decide), zK_ob (a := 160) (c := 5) (by decide) rfl, show (300 >>> ((7 : Int32) &&& 31)) + 2 = (4 : Int32) from by decide, zi_Level_160 X hc, zcv, hx, zK_ob (a := 160) (c := 5) (by decide) rfl, zK_wP, show (7 : Int32) + 1 = 8 from by decide]
theorem zi_Level_166 (X : zv_X) {I : zI} {J : zJ} {P : zPP} (hc : zcln 166 I J P) : zg_Level_init_0 X 166 3 (zK 167 I J P) = some (none, zK 172 I J (zPm P 166 172)) := by
  have hE : zpu (zpu (zpu (zpu (zpu P 166 0 (some 167)) 166 4 (some 168)) 166 5 (some 169)) 166 6 (some 170)) 166 7 (some 171) = zPm P 166 172 := by
    refine zPm_mk (fun a h1 h2 => ?_) ?_ (fun a ha => ?_)
    · skip
      rcases Nat.lt_or_ge a 168 with g | g
      · skip
        have e : a = 167 := by omega
        subst e
        rw [zpu_ne (by decide), zpu_ne (by decide), zpu_ne (by decide), zpu_ne (by decide), zpu_ne (by decide), (hc 167 (by decide)).2.2]
        exact (zPr0 (by decide) rfl).symm
      · skip
        rcases Nat.lt_or_ge a 169 with g | g
        · skip
          have e : a = 168 := by omega
          subst e
          rw [zpu_ne (by decide), zpu_ne (by decide), zpu_ne (by decide), zpu_ne (by decide), zpu_ne (by decide), (hc 168 (by decide)).2.2]
          exact (zPr0 (by decide) rfl).symm
        · skip
          rcases Nat.lt_or_ge a 170 with g | g
          · skip
            have e : a = 169 := by omega
            subst e
            rw [zpu_ne (by decide), zpu_ne (by decide), zpu_ne (by decide), zpu_ne (by decide), zpu_ne (by decide), (hc 169 (by decide)).2.2]
            exact (zPr0 (by decide) rfl).symm
          · skip
            rcases Nat.lt_or_ge a 171 with g | g
            · skip
              have e : a = 170 := by omega
              subst e
              rw [zpu_ne (by decide), zpu_ne (by decide), zpu_ne (by decide), zpu_ne (by decide), zpu_ne (by decide), (hc 170 (by decide)).2.2]
              exact (zPr0 (by decide) rfl).symm
            · skip
              have e : a = 171 := by omega
              subst e
              rw [zpu_ne (by decide), zpu_ne (by decide), zpu_ne (by decide), zpu_ne (by decide), zpu_ne (by decide), (hc 171 (by decide)).2.2]
              exact (zPr0 (by decide) rfl).symm
    · skip
      rw [zPr (l := [some 167, none, none, none, some 168, some 169, some 170, some 171]) (by decide) rfl]
      rw [zpu_same, zpu_same, zpu_same, zpu_same, zpu_same, (hc 166 (by decide)).2.2]
      funext j
      match j with
      | 0 => rfl
      | 1 => rfl
      | 2 => rfl
      | 3 => rfl
      | 4 => rfl
      | 5 => rfl
      | 6 => rfl
      | 7 => rfl
      | j + 8 => rfl
    · rw [zpu_ne (by omega), zpu_ne (by omega), zpu_ne (by omega), zpu_ne (by omega), zpu_ne (by omega)]
  have c0 : zcln 167 I J P := zcln_le hc (by decide)
  have c1 : zcln 168 I J (zpu P 166 0 (some 167)) := zcln_wP (zcln_le c0 (by decide)) (by decide)
  have c2 : zcln 169 I J (zpu (zpu P 166 0 (some 167)) 166 4 (some 168)) := zcln_wP (zcln_le c1 (by decide)) (by decide)
  have c3 : zcln 170 I J (zpu (zpu (zpu P 166 0 (some 167)) 166 4 (some 168)) 166 5 (some 169)) := zcln_wP (zcln_le c2 (by decide)) (by decide)
  have c4 : zcln 171 I J (zpu (zpu (zpu (zpu P 166 0 (some 167)) 166 4 (some 168)) 166 5 (some 169)) 166 6 (some 170)) := zcln_wP (zcln_le c3 (by decide)) (by decide)
  have c5 : zcln 172 I J (zpu (zpu (zpu (zpu (zpu P 166 0 (some 167)) 166 4 (some 168)) 166 5 (some 169)) 166 6 (some 170)) 166 7 (some 171)) := zcln_wP (zcln_le c4 (by decide)) (by decide)
  rw [zg_Level_init_0_e, show (3 : Int32) / 2 + 1 = 2 from by decide, show Int32.toNatClampNeg 3 = 3 from rfl, show Int32.toNatClampNeg 2 = 2 from rfl, if_neg (by decide), zK_mk (n := 167) rfl c0, zK_ob (a := 166) (c := 5) (by decide) rfl, zK_len (n := 167) (by decide), zK_wP, if_neg (by decide), if_neg (by decide), zK_mk (n := 168) rfl c1, zK_ob (a := 166) (c := 5) (by decide) rfl, zK_len (n := 168) (by decide), zK_wP, if_neg (by decide), zK_mk (n := 169) rfl c2, zK_ob (a := 166) (c := 5) (by decide) rfl, zK_len (n := 169) (by decide), zK_wP, if_neg (by decide), zK_mk (n := 170) rfl c3, zK_ob (a := 166) (c := 5) (by decide) rfl, zK_len (n := 170) (by decide), zK_wP, if_neg (by decide), zK_mk (n := 171) rfl c4, zK_ob (a := 166) (c := 5) (by decide) rfl, zK_len (n := 171) (by decide), zK_wP, hE]
theorem zi_Cv_166 (X : zv_X) {I : zI} {J : zJ} {P : zPP} (hc : zcln 166 I J P) (hp : P 109 0 = some 110) : zg_Cover_init_26 X 109 8 (zK 166 I J P) = zg_Cover_init_26 X 109 9 (zK 172 I J (zpu (zPm P 166 172) 110 8 (some 166))) := by
  have hx := fun (I : zI) (J : zJ) (P : zPP) (k : Nat → Option zv_R) => (show zv_ix (zK 172 I J P) 4 110 (8 : Int32) k = k 8 from zK_ix (n := 172) (a := 110) (t := 4) (m := 10) (j := 8) (by decide) rfl (by decide) (by decide))
  rw [zg_Cover_init_26_e, if_neg (by decide), zK_ob (a := 109) (c := 1) (by decide) rfl, zK_P, hp, zrf, zK_mk (n := 166) rfl hc, zK_len (n := 166) (by decide), zK_ob (a := 166) (c := 5) (by decide) rfl, show (300 >>> ((8 : Int32) &&& 31)) + 2 = (3 : Int32) from by decide, zi_Level_166 X hc, zcv, hx, zK_ob (a := 166) (c := 5) (by decide) rfl, zK_wP, show (8 : Int32) + 1 = 9 from by decide]
theorem zi_Level_172 (X : zv_X) {I : zI} {J : zJ} {P : zPP} (hc : zcln 172 I J P) : zg_Level_init_0 X 172 2 (zK 173 I J P) = some (none, zK 178 I J (zPm P 172 178)) := by
  have hE : zpu (zpu (zpu (zpu (zpu P 172 0 (some 173)) 172 4 (some 174)) 172 5 (some 175)) 172 6 (some 176)) 172 7 (some 177) = zPm P 172 178 := by
    refine zPm_mk (fun a h1 h2 => ?_) ?_ (fun a ha => ?_)
    · skip
      rcases Nat.lt_or_ge a 174 with g | g
      · skip
        have e : a = 173 := by omega
        subst e
        rw [zpu_ne (by decide), zpu_ne (by decide), zpu_ne (by decide), zpu_ne (by decide), zpu_ne (by decide), (hc 173 (by decide)).2.2]
        exact (zPr0 (by decide) rfl).symm
      · skip
        rcases Nat.lt_or_ge a 175 with g | g
        · skip
          have e : a = 174 := by omega
          subst e
          rw [zpu_ne (by decide), zpu_ne (by decide), zpu_ne (by decide), zpu_ne (by decide), zpu_ne (by decide), (hc 174 (by decide)).2.2]
          exact (zPr0 (by decide) rfl).symm
        · skip
          rcases Nat.lt_or_ge a 176 with g | g
          · skip
            have e : a = 175 := by omega
            subst e
            rw [zpu_ne (by decide), zpu_ne (by decide), zpu_ne (by decide), zpu_ne (by decide), zpu_ne (by decide), (hc 175 (by decide)).2.2]
            exact (zPr0 (by decide) rfl).symm
          · skip
            rcases Nat.lt_or_ge a 177 with g | g
            · skip
              have e : a = 176 := by omega
              subst e
              rw [zpu_ne (by decide), zpu_ne (by decide), zpu_ne (by decide), zpu_ne (by decide), zpu_ne (by decide), (hc 176 (by decide)).2.2]
              exact (zPr0 (by decide) rfl).symm
            · skip
              have e : a = 177 := by omega
              subst e
              rw [zpu_ne (by decide), zpu_ne (by decide), zpu_ne (by decide), zpu_ne (by decide), zpu_ne (by decide), (hc 177 (by decide)).2.2]
              exact (zPr0 (by decide) rfl).symm
    · skip
      rw [zPr (l := [some 173, none, none, none, some 174, some 175, some 176, some 177]) (by decide) rfl]
      rw [zpu_same, zpu_same, zpu_same, zpu_same, zpu_same, (hc 172 (by decide)).2.2]
      funext j
      match j with
      | 0 => rfl
      | 1 => rfl
      | 2 => rfl
      | 3 => rfl
      | 4 => rfl
      | 5 => rfl
      | 6 => rfl
      | 7 => rfl
      | j + 8 => rfl
    · rw [zpu_ne (by omega), zpu_ne (by omega), zpu_ne (by omega), zpu_ne (by omega), zpu_ne (by omega)]
  have c0 : zcln 173 I J P := zcln_le hc (by decide)
  have c1 : zcln 174 I J (zpu P 172 0 (some 173)) := zcln_wP (zcln_le c0 (by decide)) (by decide)
  have c2 : zcln 175 I J (zpu (zpu P 172 0 (some 173)) 172 4 (some 174)) := zcln_wP (zcln_le c1 (by decide)) (by decide)
  have c3 : zcln 176 I J (zpu (zpu (zpu P 172 0 (some 173)) 172 4 (some 174)) 172 5 (some 175)) := zcln_wP (zcln_le c2 (by decide)) (by decide)
  have c4 : zcln 177 I J (zpu (zpu (zpu (zpu P 172 0 (some 173)) 172 4 (some 174)) 172 5 (some 175)) 172 6 (some 176)) := zcln_wP (zcln_le c3 (by decide)) (by decide)
  have c5 : zcln 178 I J (zpu (zpu (zpu (zpu (zpu P 172 0 (some 173)) 172 4 (some 174)) 172 5 (some 175)) 172 6 (some 176)) 172 7 (some 177)) := zcln_wP (zcln_le c4 (by decide)) (by decide)
  rw [zg_Level_init_0_e, show (2 : Int32) / 2 + 1 = 2 from by decide, show Int32.toNatClampNeg 2 = 2 from rfl, if_neg (by decide), zK_mk (n := 173) rfl c0, zK_ob (a := 172) (c := 5) (by decide) rfl, zK_len (n := 173) (by decide), zK_wP, if_neg (by decide), if_neg (by decide), zK_mk (n := 174) rfl c1, zK_ob (a := 172) (c := 5) (by decide) rfl, zK_len (n := 174) (by decide), zK_wP, if_neg (by decide), zK_mk (n := 175) rfl c2, zK_ob (a := 172) (c := 5) (by decide) rfl, zK_len (n := 175) (by decide), zK_wP, if_neg (by decide), zK_mk (n := 176) rfl c3, zK_ob (a := 172) (c := 5) (by decide) rfl, zK_len (n := 176) (by decide), zK_wP, if_neg (by decide), zK_mk (n := 177) rfl c4, zK_ob (a := 172) (c := 5) (by decide) rfl, zK_len (n := 177) (by decide), zK_wP, hE]
theorem zi_Cv_172 (X : zv_X) {I : zI} {J : zJ} {P : zPP} (hc : zcln 172 I J P) (hp : P 109 0 = some 110) : zg_Cover_init_26 X 109 9 (zK 172 I J P) = zg_Cover_init_26 X 109 10 (zK 178 I J (zpu (zPm P 172 178) 110 9 (some 172))) := by
  have hx := fun (I : zI) (J : zJ) (P : zPP) (k : Nat → Option zv_R) => (show zv_ix (zK 178 I J P) 4 110 (9 : Int32) k = k 9 from zK_ix (n := 178) (a := 110) (t := 4) (m := 10) (j := 9) (by decide) rfl (by decide) (by decide))
  rw [zg_Cover_init_26_e, if_neg (by decide), zK_ob (a := 109) (c := 1) (by decide) rfl, zK_P, hp, zrf, zK_mk (n := 172) rfl hc, zK_len (n := 172) (by decide), zK_ob (a := 172) (c := 5) (by decide) rfl, show (300 >>> ((9 : Int32) &&& 31)) + 2 = (2 : Int32) from by decide, zi_Level_172 X hc, zcv, hx, zK_ob (a := 172) (c := 5) (by decide) rfl, zK_wP, show (9 : Int32) + 1 = 10 from by decide]
theorem zi_Cover_109 (X : zv_X) {I : zI} {J : zJ} {P : zPP} (hc : zcln 109 I J P) : zg_Cover_init_0 X 109 (zK 110 I J P) = some (none, zK 178 I J (zPm P 109 178)) := by
  have hE : zpu (zPm (zpu (zPm (zpu (zPm (zpu (zPm (zpu (zPm (zpu (zPm (zpu (zPm (zpu (zPm (zpu (zPm (zpu (zPm (zpu (zPm (zpu P 109 0 (some 110)) 111 118) 109 1 (some 111)) 118 124) 110 0 (some 118)) 124 130) 110 1 (some 124)) 130 136) 110 2 (some 130)) 136 142) 110 3 (some 136)) 142 148) 110 4 (some 142)) 148 154) 110 5 (some 148)) 154 160) 110 6 (some 154)) 160 166) 110 7 (some 160)) 166 172) 110 8 (some 166)) 172 178) 110 9 (some 172) = zPm P 109 178 := by
    refine zPm_mk (fun a h1 h2 => ?_) ?_ (fun a ha => ?_)
    · skip
      rcases Nat.lt_or_ge a 111 with g | g
      · skip
        have e : a = 110 := by omega
        subst e
        rw [zPr (l := [some 118, some 124, some 130, some 136, some 142, some 148, some 154, some 160, some 166, some 172]) (by decide) rfl]
        rw [zpu_same, zPm_out (by decide), zpu_same, zPm_out (by decide), zpu_same, zPm_out (by decide), zpu_same, zPm_out (by decide), zpu_same, zPm_out (by decide), zpu_same, zPm_out (by decide), zpu_same, zPm_out (by decide), zpu_same, zPm_out (by decide), zpu_same, zPm_out (by decide), zpu_same, zPm_out (by decide), zpu_ne (by decide), zPm_out (by decide), zpu_ne (by decide), (hc 110 (by decide)).2.2]
        funext j
        match j with
        | 0 => rfl
        | 1 => rfl
        | 2 => rfl
        | 3 => rfl
        | 4 => rfl
        | 5 => rfl
        | 6 => rfl
        | 7 => rfl
        | 8 => rfl
        | 9 => rfl
        | j + 10 => rfl
      · skip
        rcases Nat.lt_or_ge a 118 with g | g
        · skip
          rw [zpu_ne (by omega), zPm_out (by omega), zpu_ne (by omega), zPm_out (by omega), zpu_ne (by omega), zPm_out (by omega), zpu_ne (by omega), zPm_out (by omega), zpu_ne (by omega), zPm_out (by omega), zpu_ne (by omega), zPm_out (by omega), zpu_ne (by omega), zPm_out (by omega), zpu_ne (by omega), zPm_out (by omega), zpu_ne (by omega), zPm_out (by omega), zpu_ne (by omega), zPm_out (by omega), zpu_ne (by omega), zPm_in (by omega)]
        · skip
          rcases Nat.lt_or_ge a 124 with g | g
          · skip
            rw [zpu_ne (by omega), zPm_out (by omega), zpu_ne (by omega), zPm_out (by omega), zpu_ne (by omega), zPm_out (by omega), zpu_ne (by omega), zPm_out (by omega), zpu_ne (by omega), zPm_out (by omega), zpu_ne (by omega), zPm_out (by omega), zpu_ne (by omega), zPm_out (by omega), zpu_ne (by omega), zPm_out (by omega), zpu_ne (by omega), zPm_out (by omega), zpu_ne (by omega), zPm_in (by omega)]
          · skip
            rcases Nat.lt_or_ge a 130 with g | g
            · skip
              rw [zpu_ne (by omega), zPm_out (by omega), zpu_ne (by omega), zPm_out (by omega), zpu_ne (by omega), zPm_out (by omega), zpu_ne (by omega), zPm_out (by omega), zpu_ne (by omega), zPm_out (by omega), zpu_ne (by omega), zPm_out (by omega), zpu_ne (by omega), zPm_out (by omega), zpu_ne (by omega), zPm_out (by omega), zpu_ne (by omega), zPm_in (by omega)]
            · skip
              rcases Nat.lt_or_ge a 136 with g | g
              · skip
                rw [zpu_ne (by omega), zPm_out (by omega), zpu_ne (by omega), zPm_out (by omega), zpu_ne (by omega), zPm_out (by omega), zpu_ne (by omega), zPm_out (by omega), zpu_ne (by omega), zPm_out (by omega), zpu_ne (by omega), zPm_out (by omega), zpu_ne (by omega), zPm_out (by omega), zpu_ne (by omega), zPm_in (by omega)]
              · skip
                rcases Nat.lt_or_ge a 142 with g | g
                · skip
                  rw [zpu_ne (by omega), zPm_out (by omega), zpu_ne (by omega), zPm_out (by omega), zpu_ne (by omega), zPm_out (by omega), zpu_ne (by omega), zPm_out (by omega), zpu_ne (by omega), zPm_out (by omega), zpu_ne (by omega), zPm_out (by omega), zpu_ne (by omega), zPm_in (by omega)]
                · skip
                  rcases Nat.lt_or_ge a 148 with g | g
                  · skip
                    rw [zpu_ne (by omega), zPm_out (by omega), zpu_ne (by omega), zPm_out (by omega), zpu_ne (by omega), zPm_out (by omega), zpu_ne (by omega), zPm_out (by omega), zpu_ne (by omega), zPm_out (by omega), zpu_ne (by omega), zPm_in (by omega)]
                  · skip
                    rcases Nat.lt_or_ge a 154 with g | g
                    · skip
                      rw [zpu_ne (by omega), zPm_out (by omega), zpu_ne (by omega), zPm_out (by omega), zpu_ne (by omega), zPm_out (by omega), zpu_ne (by omega), zPm_out (by omega), zpu_ne (by omega), zPm_in (by omega)]
                    · skip
                      rcases Nat.lt_or_ge a 160 with g | g
                      · skip
                        rw [zpu_ne (by omega), zPm_out (by omega), zpu_ne (by omega), zPm_out (by omega), zpu_ne (by omega), zPm_out (by omega), zpu_ne (by omega), zPm_in (by omega)]
                      · skip
                        rcases Nat.lt_or_ge a 166 with g | g
                        · skip
                          rw [zpu_ne (by omega), zPm_out (by omega), zpu_ne (by omega), zPm_out (by omega), zpu_ne (by omega), zPm_in (by omega)]
                        · skip
                          rcases Nat.lt_or_ge a 172 with g | g
                          · skip
                            rw [zpu_ne (by omega), zPm_out (by omega), zpu_ne (by omega), zPm_in (by omega)]
                          · skip
                            rw [zpu_ne (by omega), zPm_in (by omega)]
    · skip
      rw [zPr (l := [some 110, some 111]) (by decide) rfl]
      rw [zpu_ne (by decide), zPm_out (by decide), zpu_ne (by decide), zPm_out (by decide), zpu_ne (by decide), zPm_out (by decide), zpu_ne (by decide), zPm_out (by decide), zpu_ne (by decide), zPm_out (by decide), zpu_ne (by decide), zPm_out (by decide), zpu_ne (by decide), zPm_out (by decide), zpu_ne (by decide), zPm_out (by decide), zpu_ne (by decide), zPm_out (by decide), zpu_ne (by decide), zPm_out (by decide), zpu_same, zPm_out (by decide), zpu_same, (hc 109 (by decide)).2.2]
      funext j
      match j with
      | 0 => rfl
      | 1 => rfl
      | j + 2 => rfl
    · rw [zpu_ne (by omega), zPm_out (by omega), zpu_ne (by omega), zPm_out (by omega), zpu_ne (by omega), zPm_out (by omega), zpu_ne (by omega), zPm_out (by omega), zpu_ne (by omega), zPm_out (by omega), zpu_ne (by omega), zPm_out (by omega), zpu_ne (by omega), zPm_out (by omega), zpu_ne (by omega), zPm_out (by omega), zpu_ne (by omega), zPm_out (by omega), zpu_ne (by omega), zPm_out (by omega), zpu_ne (by omega), zPm_out (by omega), zpu_ne (by omega)]
  have c0 : zcln 110 I J P := zcln_le hc (by decide)
  have c1 : zcln 111 I J (zpu P 109 0 (some 110)) := zcln_wP (zcln_le c0 (by decide)) (by decide)
  have c2 : zcln 118 I J (zPm (zpu P 109 0 (some 110)) 111 118) := zcln_Pm c1 (by decide)
  have c3 : zcln 118 I J (zpu (zPm (zpu P 109 0 (some 110)) 111 118) 109 1 (some 111)) := zcln_wP c2 (by decide)
  have c4 : zcln 124 I J (zPm (zpu (zPm (zpu P 109 0 (some 110)) 111 118) 109 1 (some 111)) 118 124) := zcln_Pm c3 (by decide)
  have c5 : zcln 124 I J (zpu (zPm (zpu (zPm (zpu P 109 0 (some 110)) 111 118) 109 1 (some 111)) 118 124) 110 0 (some 118)) := zcln_wP c4 (by decide)
  have c6 : zcln 130 I J (zPm (zpu (zPm (zpu (zPm (zpu P 109 0 (some 110)) 111 118) 109 1 (some 111)) 118 124) 110 0 (some 118)) 124 130) := zcln_Pm c5 (by decide)
  have c7 : zcln 130 I J (zpu (zPm (zpu (zPm (zpu (zPm (zpu P 109 0 (some 110)) 111 118) 109 1 (some 111)) 118 124) 110 0 (some 118)) 124 130) 110 1 (some 124)) := zcln_wP c6 (by decide)
  have c8 : zcln 136 I J (zPm (zpu (zPm (zpu (zPm (zpu (zPm (zpu P 109 0 (some 110)) 111 118) 109 1 (some 111)) 118 124) 110 0 (some 118)) 124 130) 110 1 (some 124)) 130 136) := zcln_Pm c7 (by decide)
  have c9 : zcln 136 I J (zpu (zPm (zpu (zPm (zpu (zPm (zpu (zPm (zpu P 109 0 (some 110)) 111 118) 109 1 (some 111)) 118 124) 110 0 (some 118)) 124 130) 110 1 (some 124)) 130 136) 110 2 (some 130)) := zcln_wP c8 (by decide)
  have c10 : zcln 142 I J (zPm (zpu (zPm (zpu (zPm (zpu (zPm (zpu (zPm (zpu P 109 0 (some 110)) 111 118) 109 1 (some 111)) 118 124) 110 0 (some 118)) 124 130) 110 1 (some 124)) 130 136) 110 2 (some 130)) 136 142) := zcln_Pm c9 (by decide)
  have c11 : zcln 142 I J (zpu (zPm (zpu (zPm (zpu (zPm (zpu (zPm (zpu (zPm (zpu P 109 0 (some 110)) 111 118) 109 1 (some 111)) 118 124) 110 0 (some 118)) 124 130) 110 1 (some 124)) 130 136) 110 2 (some 130)) 136 142) 110 3 (some 136)) := zcln_wP c10 (by decide)
  have c12 : zcln 148 I J (zPm (zpu (zPm (zpu (zPm (zpu (zPm (zpu (zPm (zpu (zPm (zpu P 109 0 (some 110)) 111 118) 109 1 (some 111)) 118 124) 110 0 (some 118)) 124 130) 110 1 (some 124)) 130 136) 110 2 (some 130)) 136 142) 110 3 (some 136)) 142 148) := zcln_Pm c11 (by decide)
  have c13 : zcln 148 I J (zpu (zPm (zpu (zPm (zpu (zPm (zpu (zPm (zpu (zPm (zpu (zPm (zpu P 109 0 (some 110)) 111 118) 109 1 (some 111)) 118 124) 110 0 (some 118)) 124 130) 110 1 (some 124)) 130 136) 110 2 (some 130)) 136 142) 110 3 (some 136)) 142 148) 110 4 (some 142)) := zcln_wP c12 (by decide)
  have c14 : zcln 154 I J (zPm (zpu (zPm (zpu (zPm (zpu (zPm (zpu (zPm (zpu (zPm (zpu (zPm (zpu P 109 0 (some 110)) 111 118) 109 1 (some 111)) 118 124) 110 0 (some 118)) 124 130) 110 1 (some 124)) 130 136) 110 2 (some 130)) 136 142) 110 3 (some 136)) 142 148) 110 4 (some 142)) 148 154) := zcln_Pm c13 (by decide)
  have c15 : zcln 154 I J (zpu (zPm (zpu (zPm (zpu (zPm (zpu (zPm (zpu (zPm (zpu (zPm (zpu (zPm (zpu P 109 0 (some 110)) 111 118) 109 1 (some 111)) 118 124) 110 0 (some 118)) 124 130) 110 1 (some 124)) 130 136) 110 2 (some 130)) 136 142) 110 3 (some 136)) 142 148) 110 4 (some 142)) 148 154) 110 5 (some 148)) := zcln_wP c14 (by decide)
  have c16 : zcln 160 I J (zPm (zpu (zPm (zpu (zPm (zpu (zPm (zpu (zPm (zpu (zPm (zpu (zPm (zpu (zPm (zpu P 109 0 (some 110)) 111 118) 109 1 (some 111)) 118 124) 110 0 (some 118)) 124 130) 110 1 (some 124)) 130 136) 110 2 (some 130)) 136 142) 110 3 (some 136)) 142 148) 110 4 (some 142)) 148 154) 110 5 (some 148)) 154 160) := zcln_Pm c15 (by decide)
  have c17 : zcln 160 I J (zpu (zPm (zpu (zPm (zpu (zPm (zpu (zPm (zpu (zPm (zpu (zPm (zpu (zPm (zpu (zPm (zpu P 109 0 (some 110)) 111 118) 109 1 (some 111)) 118 124) 110 0 (some 118)) 124 130) 110 1 (some 124)) 130 136) 110 2 (some 130)) 136 142) 110 3 (some 136)) 142 148) 110 4 (some 142)) 148 154) 110 5 (some 148)) 154 160) 110 6 (some 154)) := zcln_wP c16 (by decide)
  have c18 : zcln 166 I J (zPm (zpu (zPm (zpu (zPm (zpu (zPm (zpu (zPm (zpu (zPm (zpu (zPm (zpu (zPm (zpu (zPm (zpu P 109 0 (some 110)) 111 118) 109 1 (some 111)) 118 124) 110 0 (some 118)) 124 130) 110 1 (some 124)) 130 136) 110 2 (some 130)) 136 142) 110 3 (some 136)) 142 148) 110 4 (some 142)) 148 154) 110 5 (some 148)) 154 160) 110 6 (some 154)) 160 166) := zcln_Pm c17 (by decide)
  have c19 : zcln 166 I J (zpu (zPm (zpu (zPm (zpu (zPm (zpu (zPm (zpu (zPm (zpu (zPm (zpu (zPm (zpu (zPm (zpu (zPm (zpu P 109 0 (some 110)) 111 118) 109 1 (some 111)) 118 124) 110 0 (some 118)) 124 130) 110 1 (some 124)) 130 136) 110 2 (some 130)) 136 142) 110 3 (some 136)) 142 148) 110 4 (some 142)) 148 154) 110 5 (some 148)) 154 160) 110 6 (some 154)) 160 166) 110 7 (some 160)) := zcln_wP c18 (by decide)
  have c20 : zcln 172 I J (zPm (zpu (zPm (zpu (zPm (zpu (zPm (zpu (zPm (zpu (zPm (zpu (zPm (zpu (zPm (zpu (zPm (zpu (zPm (zpu P 109 0 (some 110)) 111 118) 109 1 (some 111)) 118 124) 110 0 (some 118)) 124 130) 110 1 (some 124)) 130 136) 110 2 (some 130)) 136 142) 110 3 (some 136)) 142 148) 110 4 (some 142)) 148 154) 110 5 (some 148)) 154 160) 110 6 (some 154)) 160 166) 110 7 (some 160)) 166 172) := zcln_Pm c19 (by decide)
  have c21 : zcln 172 I J (zpu (zPm (zpu (zPm (zpu (zPm (zpu (zPm (zpu (zPm (zpu (zPm (zpu (zPm (zpu (zPm (zpu (zPm (zpu (zPm (zpu P 109 0 (some 110)) 111 118) 109 1 (some 111)) 118 124) 110 0 (some 118)) 124 130) 110 1 (some 124)) 130 136) 110 2 (some 130)) 136 142) 110 3 (some 136)) 142 148) 110 4 (some 142)) 148 154) 110 5 (some 148)) 154 160) 110 6 (some 154)) 160 166) 110 7 (some 160)) 166 172) 110 8 (some 166)) := zcln_wP c20 (by decide)
  have c22 : zcln 178 I J (zPm (zpu (zPm (zpu (zPm (zpu (zPm (zpu (zPm (zpu (zPm (zpu (zPm (zpu (zPm (zpu (zPm (zpu (zPm (zpu (zPm (zpu P 109 0 (some 110)) 111 118) 109 1 (some 111)) 118 124) 110 0 (some 118)) 124 130) 110 1 (some 124)) 130 136) 110 2 (some 130)) 136 142) 110 3 (some 136)) 142 148) 110 4 (some 142)) 148 154) 110 5 (some 148)) 154 160) 110 6 (some 154)) 160 166) 110 7 (some 160)) 166 172) 110 8 (some 166)) 172 178) := zcln_Pm c21 (by decide)
  have c23 : zcln 178 I J (zpu (zPm (zpu (zPm (zpu (zPm (zpu (zPm (zpu (zPm (zpu (zPm (zpu (zPm (zpu (zPm (zpu (zPm (zpu (zPm (zpu (zPm (zpu P 109 0 (some 110)) 111 118) 109 1 (some 111)) 118 124) 110 0 (some 118)) 124 130) 110 1 (some 124)) 130 136) 110 2 (some 130)) 136 142) 110 3 (some 136)) 142 148) 110 4 (some 142)) 148 154) 110 5 (some 148)) 154 160) 110 6 (some 154)) 160 166) 110 7 (some 160)) 166 172) 110 8 (some 166)) 172 178) 110 9 (some 172)) := zcln_wP c22 (by decide)
  rw [zg_Cover_init_0_e, show Int32.toNatClampNeg 10 = 10 from rfl, if_neg (by decide), zK_mk (n := 110) rfl c0, zK_ob (a := 109) (c := 1) (by decide) rfl, zK_len (n := 110) (by decide), zK_wP, zK_mk (n := 111) rfl c1, zK_len (n := 111) (by decide), zK_ob (a := 111) (c := 2) (by decide) rfl, zi_Fit_111 X c1, zcv, zK_ob (a := 109) (c := 1) (by decide) rfl, zK_wP, zi_Cv_118 X c3 rfl, zi_Cv_124 X c5 rfl, zi_Cv_130 X c7 rfl, zi_Cv_136 X c9 rfl, zi_Cv_142 X c11 rfl, zi_Cv_148 X c13 rfl, zi_Cv_154 X c15 rfl, zi_Cv_160 X c17 rfl, zi_Cv_166 X c19 rfl, zi_Cv_172 X c21 rfl, zg_Cover_init_26_e, if_pos (by decide), zg_Cover_init_58_e, hE]
theorem zi_Teller_31 (X : zv_X) {I : zI} {J : zJ} {P : zPP} (hc : zcln 31 I J P) : zg_Teller_init_0 X 31 (zK 32 I J P) = some (none, zK 40 (zst I 31 5 (-1)) J (zPm P 31 40)) := by
  have hE : zpu (zpu (zpu (zpu (zpu (zPm (zpu P 31 0 (some 32)) 33 36) 31 2 (some 33)) 31 3 (some 36)) 31 6 (some 37)) 31 7 (some 38)) 31 8 (some 39) = zPm P 31 40 := by
    refine zPm_mk (fun a h1 h2 => ?_) ?_ (fun a ha => ?_)
    · skip
      rcases Nat.lt_or_ge a 33 with g | g
      · skip
        have e : a = 32 := by omega
        subst e
        rw [zpu_ne (by decide), zpu_ne (by decide), zpu_ne (by decide), zpu_ne (by decide), zpu_ne (by decide), zPm_out (by decide), zpu_ne (by decide), (hc 32 (by decide)).2.2]
        exact (zPr0 (by decide) rfl).symm
      · skip
        rcases Nat.lt_or_ge a 36 with g | g
        · skip
          rw [zpu_ne (by omega), zpu_ne (by omega), zpu_ne (by omega), zpu_ne (by omega), zpu_ne (by omega), zPm_in (by omega)]
        · skip
          rcases Nat.lt_or_ge a 37 with g | g
          · skip
            have e : a = 36 := by omega
            subst e
            rw [zpu_ne (by decide), zpu_ne (by decide), zpu_ne (by decide), zpu_ne (by decide), zpu_ne (by decide), zPm_out (by decide), zpu_ne (by decide), (hc 36 (by decide)).2.2]
            exact (zPr0 (by decide) rfl).symm
          · skip
            rcases Nat.lt_or_ge a 38 with g | g
            · skip
              have e : a = 37 := by omega
              subst e
              rw [zpu_ne (by decide), zpu_ne (by decide), zpu_ne (by decide), zpu_ne (by decide), zpu_ne (by decide), zPm_out (by decide), zpu_ne (by decide), (hc 37 (by decide)).2.2]
              exact (zPr0 (by decide) rfl).symm
            · skip
              rcases Nat.lt_or_ge a 39 with g | g
              · skip
                have e : a = 38 := by omega
                subst e
                rw [zpu_ne (by decide), zpu_ne (by decide), zpu_ne (by decide), zpu_ne (by decide), zpu_ne (by decide), zPm_out (by decide), zpu_ne (by decide), (hc 38 (by decide)).2.2]
                exact (zPr0 (by decide) rfl).symm
              · skip
                have e : a = 39 := by omega
                subst e
                rw [zpu_ne (by decide), zpu_ne (by decide), zpu_ne (by decide), zpu_ne (by decide), zpu_ne (by decide), zPm_out (by decide), zpu_ne (by decide), (hc 39 (by decide)).2.2]
                exact (zPr0 (by decide) rfl).symm
    · skip
      rw [zPr (l := [some 32, none, some 33, some 36, none, none, some 37, some 38, some 39]) (by decide) rfl]
      rw [zpu_same, zpu_same, zpu_same, zpu_same, zpu_same, zPm_out (by decide), zpu_same, (hc 31 (by decide)).2.2]
      funext j
      match j with
      | 0 => rfl
      | 1 => rfl
      | 2 => rfl
      | 3 => rfl
      | 4 => rfl
      | 5 => rfl
      | 6 => rfl
      | 7 => rfl
      | 8 => rfl
      | j + 9 => rfl
    · rw [zpu_ne (by omega), zpu_ne (by omega), zpu_ne (by omega), zpu_ne (by omega), zpu_ne (by omega), zPm_out (by omega), zpu_ne (by omega)]
  have c0 : zcln 32 I J P := zcln_le hc (by decide)
  have c1 : zcln 33 I J (zpu P 31 0 (some 32)) := zcln_wP (zcln_le c0 (by decide)) (by decide)
  have c2 : zcln 36 I J (zPm (zpu P 31 0 (some 32)) 33 36) := zcln_Pm c1 (by decide)
  have c3 : zcln 36 I J (zpu (zPm (zpu P 31 0 (some 32)) 33 36) 31 2 (some 33)) := zcln_wP c2 (by decide)
  have c4 : zcln 37 I J (zpu (zpu (zPm (zpu P 31 0 (some 32)) 33 36) 31 2 (some 33)) 31 3 (some 36)) := zcln_wP (zcln_le c3 (by decide)) (by decide)
  have c5 : zcln 37 (zst I 31 5 (-1)) J (zpu (zpu (zPm (zpu P 31 0 (some 32)) 33 36) 31 2 (some 33)) 31 3 (some 36)) := zcln_st c4 (by decide)
  have c6 : zcln 38 (zst I 31 5 (-1)) J (zpu (zpu (zpu (zPm (zpu P 31 0 (some 32)) 33 36) 31 2 (some 33)) 31 3 (some 36)) 31 6 (some 37)) := zcln_wP (zcln_le c5 (by decide)) (by decide)
  have c7 : zcln 39 (zst I 31 5 (-1)) J (zpu (zpu (zpu (zpu (zPm (zpu P 31 0 (some 32)) 33 36) 31 2 (some 33)) 31 3 (some 36)) 31 6 (some 37)) 31 7 (some 38)) := zcln_wP (zcln_le c6 (by decide)) (by decide)
  have c8 : zcln 40 (zst I 31 5 (-1)) J (zpu (zpu (zpu (zpu (zpu (zPm (zpu P 31 0 (some 32)) 33 36) 31 2 (some 33)) 31 3 (some 36)) 31 6 (some 37)) 31 7 (some 38)) 31 8 (some 39)) := zcln_wP (zcln_le c7 (by decide)) (by decide)
  rw [zg_Teller_init_0_e, show Int32.toNatClampNeg 600 = 600 from rfl, show Int32.toNatClampNeg 8 = 8 from rfl, show Int32.toNatClampNeg 601 = 601 from rfl, if_neg (by decide), zK_mk (n := 32) rfl c0, zK_ob (a := 31) (c := 10) (by decide) rfl, zK_len (n := 32) (by decide), zK_wP, zK_mk (n := 33) rfl c1, zK_len (n := 33) (by decide), zK_ob (a := 33) (c := 4) (by decide) rfl, zi_Keys_33 X c1, zcv, zK_ob (a := 31) (c := 10) (by decide) rfl, zK_wP, if_neg (by decide), zK_mk (n := 36) rfl c3, zK_ob (a := 31) (c := 10) (by decide) rfl, zK_len (n := 36) (by decide), zK_wP, zK_ob (a := 31) (c := 10) (by decide) rfl, zK_wI, if_neg (by decide), zK_mk (n := 37) rfl c5, zK_ob (a := 31) (c := 10) (by decide) rfl, zK_len (n := 37) (by decide), zK_wP, if_neg (by decide), zK_mk (n := 38) rfl c6, zK_ob (a := 31) (c := 10) (by decide) rfl, zK_len (n := 38) (by decide), zK_wP, if_neg (by decide), zK_mk (n := 39) rfl c7, zK_ob (a := 31) (c := 10) (by decide) rfl, zK_len (n := 39) (by decide), zK_wP, hE]
theorem zP178 : zP false 178 = fun j => [some 179].getD j none := by
  funext j
  match j with
  | 0 => rfl
  | 1 => rfl
  | 2 => rfl
  | 3 => rfl
  | j + 4 =>
    unfold zP
    rw [if_neg (by omega)]
    rfl
theorem zi_Sieve_178 (X : zv_X) {I : zI} {J : zJ} {P : zPP} (hc : zcln 178 I J P) : zg_Sieve_init_0 X 178 (zK 179 I J P) = some (none, zK 180 (zst I 178 1 1) J (zPm P 178 180)) := by
  have hE : zpu P 178 0 (some 179) = zPm P 178 180 := by
    refine zPm_mk (fun a h1 h2 => ?_) ?_ (fun a ha => ?_)
    · skip
      have e : a = 179 := by omega
      subst e
      rw [zpu_ne (by decide), (hc 179 (by decide)).2.2]
      exact (zPr0 (by decide) rfl).symm
    · skip
      rw [zP178]
      rw [zpu_same, (hc 178 (by decide)).2.2]
      funext j
      match j with
      | 0 => rfl
      | j + 1 => rfl
    · rw [zpu_ne (by omega)]
  have c0 : zcln 179 I J P := zcln_le hc (by decide)
  have c1 : zcln 180 I J (zpu P 178 0 (some 179)) := zcln_wP (zcln_le c0 (by decide)) (by decide)
  have c2 : zcln 180 (zst I 178 1 (1)) J (zpu P 178 0 (some 179)) := zcln_st c1 (by decide)
  rw [zg_Sieve_init_0_e, show Int32.toNatClampNeg 512 = 512 from rfl, if_neg (by decide), zK_mk (n := 179) rfl c0, zK_ob (a := 178) (c := 8) (by decide) rfl, zK_len (n := 179) (by decide), zK_wP, zK_ob (a := 178) (c := 8) (by decide) rfl, zK_wI, hE]
theorem zi_GP (X : zv_X) {I : zI} {J : zJ} {P : zPP} (hc : zcln 0 I J P) : ∃ I', zg_GP_init_0 X 0 (zK 1 I J P) = some (none, zK 181 (zst (zst (zst I' 0 2 0) 31 5 (-1)) 178 1 1) J (zPm P 0 181)) ∧ (∀ c, c ≠ 6 → c ≠ 11 → c ≠ 21 → c ≠ 26 → I' c = I c) ∧ I' 6 = (zv_old X 1).2 ∧ ∀ i, i < 64 → I' 11 i = -1000000001 := by
  have hE : zpu (zpu (zPm (zpu (zPm (zpu (zPm (zpu (zPm (zpu (zPm (zpu (zPm P 1 16) 0 0 (some 1)) 16 31) 0 1 (some 16)) 31 40) 0 3 (some 31)) 40 109) 0 4 (some 40)) 109 178) 0 5 (some 109)) 178 180) 0 6 (some 178)) 0 7 (some 180) = zPm P 0 181 := by
    refine zPm_mk (fun a h1 h2 => ?_) ?_ (fun a ha => ?_)
    · skip
      rcases Nat.lt_or_ge a 16 with g | g
      · skip
        rw [zpu_ne (by omega), zpu_ne (by omega), zPm_out (by omega), zpu_ne (by omega), zPm_out (by omega), zpu_ne (by omega), zPm_out (by omega), zpu_ne (by omega), zPm_out (by omega), zpu_ne (by omega), zPm_out (by omega), zpu_ne (by omega), zPm_in (by omega)]
      · skip
        rcases Nat.lt_or_ge a 31 with g | g
        · skip
          rw [zpu_ne (by omega), zpu_ne (by omega), zPm_out (by omega), zpu_ne (by omega), zPm_out (by omega), zpu_ne (by omega), zPm_out (by omega), zpu_ne (by omega), zPm_out (by omega), zpu_ne (by omega), zPm_in (by omega)]
        · skip
          rcases Nat.lt_or_ge a 40 with g | g
          · skip
            rw [zpu_ne (by omega), zpu_ne (by omega), zPm_out (by omega), zpu_ne (by omega), zPm_out (by omega), zpu_ne (by omega), zPm_out (by omega), zpu_ne (by omega), zPm_in (by omega)]
          · skip
            rcases Nat.lt_or_ge a 109 with g | g
            · skip
              rw [zpu_ne (by omega), zpu_ne (by omega), zPm_out (by omega), zpu_ne (by omega), zPm_out (by omega), zpu_ne (by omega), zPm_in (by omega)]
            · skip
              rcases Nat.lt_or_ge a 178 with g | g
              · skip
                rw [zpu_ne (by omega), zpu_ne (by omega), zPm_out (by omega), zpu_ne (by omega), zPm_in (by omega)]
              · skip
                rcases Nat.lt_or_ge a 180 with g | g
                · skip
                  rw [zpu_ne (by omega), zpu_ne (by omega), zPm_in (by omega)]
                · skip
                  have e : a = 180 := by omega
                  subst e
                  rw [zpu_ne (by decide), zpu_ne (by decide), zPm_out (by decide), zpu_ne (by decide), zPm_out (by decide), zpu_ne (by decide), zPm_out (by decide), zpu_ne (by decide), zPm_out (by decide), zpu_ne (by decide), zPm_out (by decide), zpu_ne (by decide), zPm_out (by decide), (hc 180 (by decide)).2.2]
                  exact (zPr0 (by decide) rfl).symm
    · skip
      rw [zPr (l := [some 1, some 16, none, some 31, some 40, some 109, some 178, some 180]) (by decide) rfl]
      rw [zpu_same, zpu_same, zPm_out (by decide), zpu_same, zPm_out (by decide), zpu_same, zPm_out (by decide), zpu_same, zPm_out (by decide), zpu_same, zPm_out (by decide), zpu_same, zPm_out (by decide), (hc 0 (by decide)).2.2]
      funext j
      match j with
      | 0 => rfl
      | 1 => rfl
      | 2 => rfl
      | 3 => rfl
      | 4 => rfl
      | 5 => rfl
      | 6 => rfl
      | 7 => rfl
      | j + 8 => rfl
    · rw [zpu_ne (by omega), zpu_ne (by omega), zPm_out (by omega), zpu_ne (by omega), zPm_out (by omega), zpu_ne (by omega), zPm_out (by omega), zpu_ne (by omega), zPm_out (by omega), zpu_ne (by omega), zPm_out (by omega), zpu_ne (by omega), zPm_out (by omega)]
  have c0 : zcln 1 I J P := zcln_le hc (by decide)
  obtain ⟨I1, g1, k1, w1, f1⟩ := zi_State_1 X c0
  have c1 : zcln 16 I1 J (zPm P 1 16) := fun a ha => ⟨by rw [k1 a (by omega) (by omega)]; exact (c0 a (by omega)).1, (zcln_Pm (n' := 16) (o := 1) c0 (by decide) a ha).2⟩
  have c2 : zcln 16 I1 J (zpu (zPm P 1 16) 0 0 (some 1)) := zcln_wP c1 (by decide)
  obtain ⟨I2, g2, k2, w2, f2⟩ := zi_State_16 X c2
  have c3 : zcln 31 I2 J (zPm (zpu (zPm P 1 16) 0 0 (some 1)) 16 31) := fun a ha => ⟨by rw [k2 a (by omega) (by omega)]; exact (c2 a (by omega)).1, (zcln_Pm (n' := 31) (o := 16) c2 (by decide) a ha).2⟩
  have c4 : zcln 31 I2 J (zpu (zPm (zpu (zPm P 1 16) 0 0 (some 1)) 16 31) 0 1 (some 16)) := zcln_wP c3 (by decide)
  have c5 : zcln 31 (zst I2 0 2 (0)) J (zpu (zPm (zpu (zPm P 1 16) 0 0 (some 1)) 16 31) 0 1 (some 16)) := zcln_st c4 (by decide)
  have c6 : zcln 40 (zst (zst I2 0 2 (0)) 31 5 (-1)) J (zPm (zpu (zPm (zpu (zPm P 1 16) 0 0 (some 1)) 16 31) 0 1 (some 16)) 31 40) := zcln_st (zcln_Pm c5 (by decide)) (by decide)
  have c7 : zcln 40 (zst (zst I2 0 2 (0)) 31 5 (-1)) J (zpu (zPm (zpu (zPm (zpu (zPm P 1 16) 0 0 (some 1)) 16 31) 0 1 (some 16)) 31 40) 0 3 (some 31)) := zcln_wP c6 (by decide)
  have c8 : zcln 109 (zst (zst I2 0 2 (0)) 31 5 (-1)) J (zPm (zpu (zPm (zpu (zPm (zpu (zPm P 1 16) 0 0 (some 1)) 16 31) 0 1 (some 16)) 31 40) 0 3 (some 31)) 40 109) := zcln_Pm c7 (by decide)
  have c9 : zcln 109 (zst (zst I2 0 2 (0)) 31 5 (-1)) J (zpu (zPm (zpu (zPm (zpu (zPm (zpu (zPm P 1 16) 0 0 (some 1)) 16 31) 0 1 (some 16)) 31 40) 0 3 (some 31)) 40 109) 0 4 (some 40)) := zcln_wP c8 (by decide)
  have c10 : zcln 178 (zst (zst I2 0 2 (0)) 31 5 (-1)) J (zPm (zpu (zPm (zpu (zPm (zpu (zPm (zpu (zPm P 1 16) 0 0 (some 1)) 16 31) 0 1 (some 16)) 31 40) 0 3 (some 31)) 40 109) 0 4 (some 40)) 109 178) := zcln_Pm c9 (by decide)
  have c11 : zcln 178 (zst (zst I2 0 2 (0)) 31 5 (-1)) J (zpu (zPm (zpu (zPm (zpu (zPm (zpu (zPm (zpu (zPm P 1 16) 0 0 (some 1)) 16 31) 0 1 (some 16)) 31 40) 0 3 (some 31)) 40 109) 0 4 (some 40)) 109 178) 0 5 (some 109)) := zcln_wP c10 (by decide)
  have c12 : zcln 180 (zst (zst (zst I2 0 2 (0)) 31 5 (-1)) 178 1 (1)) J (zPm (zpu (zPm (zpu (zPm (zpu (zPm (zpu (zPm (zpu (zPm P 1 16) 0 0 (some 1)) 16 31) 0 1 (some 16)) 31 40) 0 3 (some 31)) 40 109) 0 4 (some 40)) 109 178) 0 5 (some 109)) 178 180) := zcln_st (zcln_Pm c11 (by decide)) (by decide)
  have c13 : zcln 180 (zst (zst (zst I2 0 2 (0)) 31 5 (-1)) 178 1 (1)) J (zpu (zPm (zpu (zPm (zpu (zPm (zpu (zPm (zpu (zPm (zpu (zPm P 1 16) 0 0 (some 1)) 16 31) 0 1 (some 16)) 31 40) 0 3 (some 31)) 40 109) 0 4 (some 40)) 109 178) 0 5 (some 109)) 178 180) 0 6 (some 178)) := zcln_wP c12 (by decide)
  have c14 : zcln 181 (zst (zst (zst I2 0 2 (0)) 31 5 (-1)) 178 1 (1)) J (zpu (zpu (zPm (zpu (zPm (zpu (zPm (zpu (zPm (zpu (zPm (zpu (zPm P 1 16) 0 0 (some 1)) 16 31) 0 1 (some 16)) 31 40) 0 3 (some 31)) 40 109) 0 4 (some 40)) 109 178) 0 5 (some 109)) 178 180) 0 6 (some 178)) 0 7 (some 180)) := zcln_wP (zcln_le c13 (by decide)) (by decide)
  refine ⟨I2, ?_, fun c h1 h2 h3 h4 => by rw [k2 c h3 h4, k1 c h1 h2], by rw [k2 6 (by decide) (by decide), w1], fun i hi => by rw [k2 11 (by decide) (by decide)]; exact f1 i hi⟩
  rw [zg_GP_init_0_e, show Int32.toNatClampNeg 301 = 301 from rfl, zK_mk (n := 1) rfl c0, zK_len (n := 1) (by decide), zK_ob (a := 1) (c := 9) (by decide) rfl, g1, zcv, zK_ob (a := 0) (c := 11) (by decide) rfl, zK_wP, zK_mk (n := 16) rfl c2, zK_len (n := 16) (by decide), zK_ob (a := 16) (c := 9) (by decide) rfl, g2, zcv, zK_ob (a := 0) (c := 11) (by decide) rfl, zK_wP, zK_ob (a := 0) (c := 11) (by decide) rfl, if_pos (Or.inl rfl), zK_wI, zK_mk (n := 31) rfl c5, zK_len (n := 31) (by decide), zK_ob (a := 31) (c := 10) (by decide) rfl, zi_Teller_31 X c5, zcv, zK_ob (a := 0) (c := 11) (by decide) rfl, zK_wP, zK_mk (n := 40) rfl c7, zK_len (n := 40) (by decide), zK_ob (a := 40) (c := 1) (by decide) rfl, zi_Cover_40 X c7, zcv, zK_ob (a := 0) (c := 11) (by decide) rfl, zK_wP, zK_mk (n := 109) rfl c9, zK_len (n := 109) (by decide), zK_ob (a := 109) (c := 1) (by decide) rfl, zi_Cover_109 X c9, zcv, zK_ob (a := 0) (c := 11) (by decide) rfl, zK_wP, zK_mk (n := 178) rfl c11, zK_len (n := 178) (by decide), zK_ob (a := 178) (c := 8) (by decide) rfl, zi_Sieve_178 X c11, zcv, zK_ob (a := 0) (c := 11) (by decide) rfl, zK_wP, if_neg (by decide), zK_mk (n := 180) rfl c13, zK_ob (a := 0) (c := 11) (by decide) rfl, zK_len (n := 180) (by decide), zK_wP, hE]
