/-! slopes: the side that keeps tops -/
theorem zq3 {du1 du2 du3 dx1 dx2 dx3 : Int} (h1 : du1 * dx2 < du2 * dx1) (h2 : du2 * dx3 < du3 * dx2) (p1 : 0 < dx1) (p2 : 0 < dx2) (p3 : 0 < dx3) : du1 * dx3 < du3 * dx1 := by
  have a1 := Int.mul_lt_mul_of_pos_right h1 p3
  have a2 := Int.mul_lt_mul_of_pos_right h2 p1
  apply Int.lt_of_mul_lt_mul_left (a := dx2) _ (Int.le_of_lt p2)
  grind
/-- fractions: a/b ≤ c/d ≤ e/f -/
theorem zqle {a b c d e f : Int} (h1 : a * d ≤ c * b) (h2 : c * f ≤ e * d) (pb : 0 < b) (pd : 0 < d) (pf : 0 < f) : a * f ≤ e * b := by
  have a1 := Int.mul_le_mul_of_nonneg_right h1 (Int.le_of_lt pf)
  have a2 := Int.mul_le_mul_of_nonneg_right h2 (Int.le_of_lt pb)
  apply Int.le_of_mul_le_mul_left (a := d) _ pd
  grind
abbrev zPt : Type := Int × Int
def zbend (a c d : zPt) : Prop := (c.2 - a.2) * (d.1 - a.1) < (d.2 - a.2) * (c.1 - a.1)
theorem zbend3 {a c d z : zPt} (h1 : zbend a c d) (h2 : zbend c d z) (p1 : a.1 < c.1) (p2 : c.1 < d.1) (p3 : d.1 < z.1) : zbend a c z := by
  unfold zbend at *
  have := zq3 (du1 := c.2 - a.2) (du2 := d.2 - c.2) (du3 := z.2 - c.2) (dx1 := c.1 - a.1) (dx2 := d.1 - c.1) (dx3 := z.1 - c.1) (by grind) (by grind) (by omega) (by omega) (by omega)
  grind
/-- each pair of neighbours with every later point -/
def zcvx : List zPt → Prop
  | [] => True
  | [_] => True
  | a :: c :: t => (∀ d ∈ t, zbend a c d) ∧ zcvx (c :: t)
def zinc (H : List zPt) : Prop := H.Pairwise (fun a c => a.1 < c.1)
theorem zcvx_push : ∀ {H : List zPt} {z : zPt}, zcvx H → zinc (H ++ [z]) → (∀ a c T, H = T ++ [a, c] → zbend a c z) → zcvx (H ++ [z])
  | [], z, _, _, _ => trivial
  | [a], z, _, _, _ => ⟨fun d hd => by simp at hd, trivial⟩
  | [a, c], z, _, _, h => ⟨fun d hd => by simp at hd; rw [hd]; exact h a c [] rfl, ⟨fun d hd => by simp at hd, trivial⟩⟩
  | a :: c :: d :: t, z, hc, hi, h => by
    obtain ⟨h1, h2⟩ := hc
    have hi' : zinc (c :: d :: t ++ [z]) := (List.pairwise_cons.mp hi).2
    have ih := zcvx_push (H := c :: d :: t) (z := z) h2 hi' (fun a' c' T e => h a' c' (a :: T) (by rw [e]; rfl))
    have p1 := (List.pairwise_cons.mp hi).1
    have p2 := (List.pairwise_cons.mp hi').1
    have p3 := (List.pairwise_cons.mp (List.pairwise_cons.mp hi').2).1
    refine ⟨fun e he => ?_, ih⟩
    rcases List.mem_append.mp he with he | he
    · exact h1 e he
    · rw [List.mem_singleton] at he
      subst he
      have h3 : zbend c d e := ih.1 e (by simp)
      exact zbend3 (h1 d (by simp)) h3 (p1 c (by simp)) (p2 d (by simp)) (p3 e (by simp))
/-- popping: what bends down goes -/
def zpop (z : zPt) : List zPt → List zPt
  | c :: a :: t => if (c.2 - a.2) * (z.1 - a.1) < (z.2 - a.2) * (c.1 - a.1) then c :: a :: t else zpop z (a :: t)
  | l => l
def ztop (H : List zPt) (z : zPt) : List zPt := (zpop z H.reverse).reverse ++ [z]
theorem zdom {a c d : zPt} {x v : Int} (h : ¬ zbend a c d) (p1 : a.1 < c.1) (p2 : c.1 < d.1) (p3 : d.1 < x) : (v - c.2) * (x - a.1) ≤ (v - a.2) * (x - c.1) ∨ (v - c.2) * (x - d.1) ≤ (v - d.2) * (x - c.1) := by
  unfold zbend at h
  rcases Int.lt_or_le ((v - a.2) * (x - c.1)) ((v - c.2) * (x - a.1)) with q1 | q1
  · rcases Int.lt_or_le ((v - d.2) * (x - c.1)) ((v - c.2) * (x - d.1)) with q2 | q2
    · exfalso
      have k1 := Int.mul_lt_mul_of_pos_right q1 (show 0 < d.1 - c.1 by omega)
      have k2 := Int.mul_lt_mul_of_pos_right q2 (show 0 < c.1 - a.1 by omega)
      have k3 := Int.mul_le_mul_of_nonneg_right (Int.not_lt.mp h) (show 0 ≤ x - c.1 by omega)
      grind
    · exact Or.inr q2
  · exact Or.inl q1
theorem zpop_mem {z g : zPt} : ∀ {l : List zPt}, g ∈ zpop z l → g ∈ l
  | [], h => h
  | [_], h => h
  | c :: a :: t, h => by
    rw [zpop] at h
    split at h
    · exact h
    · exact List.mem_cons_of_mem _ (zpop_mem h)
theorem zpop_suf {z : zPt} : ∀ {l : List zPt}, ∃ p, l = p ++ zpop z l
  | [] => ⟨[], rfl⟩
  | [_] => ⟨[], rfl⟩
  | c :: a :: t => by
    rw [zpop]
    split
    · exact ⟨[], rfl⟩
    · obtain ⟨p, hp⟩ := zpop_suf (z := z) (l := a :: t)
      exact ⟨c :: p, by rw [List.cons_append, ← hp]⟩
theorem zpop_ne {z : zPt} : ∀ {l : List zPt}, l ≠ [] → zpop z l ≠ []
  | [], h => absurd rfl h
  | [_], _ => by simp [zpop]
  | c :: a :: t, _ => by
    rw [zpop]
    split
    · simp
    · exact zpop_ne (by simp)
theorem zpop_last {z : zPt} : ∀ {l : List zPt}, (zpop z l).getLast? = l.getLast?
  | [] => rfl
  | [_] => rfl
  | c :: a :: t => by
    rw [zpop]
    split
    · rfl
    · rw [zpop_last (l := a :: t)]; simp
theorem zpop_top {z a c : zPt} {T : List zPt} : ∀ {l : List zPt}, zpop z l = c :: a :: T → zbend a c z
  | [], h => by simp [zpop] at h
  | [_], h => by simp [zpop] at h
  | c' :: a' :: t, h => by
    rw [zpop] at h
    split at h
    · rename_i hh
      simp at h
      obtain ⟨rfl, rfl, rfl⟩ := h
      exact hh
    · exact zpop_top h
/-- what was popped is no steeper than what stays -/
theorem zpop_dom {z : zPt} {x v : Int} (hx : z.1 < x) : ∀ {l : List zPt}, (l.Pairwise (fun a c => c.1 < a.1)) → (∀ g ∈ l, g.1 < z.1) → ∀ g ∈ l, ∃ g', (g' ∈ zpop z l ∨ g' = z) ∧ (v - g.2) * (x - g'.1) ≤ (v - g'.2) * (x - g.1)
  | [], _, _, g, hg => by simp at hg
  | [a], _, _, g, hg => ⟨g, Or.inl (by simpa [zpop] using hg), Int.le_refl _⟩
  | c :: a :: t, hi, hz, g, hg => by
    rw [zpop]
    split
    · exact ⟨g, Or.inl hg, Int.le_refl _⟩
    · rename_i hh
      obtain ⟨h1, h2⟩ := List.pairwise_cons.mp hi
      have ih := zpop_dom (v := v) hx h2 (fun g hg => hz g (List.mem_cons_of_mem _ hg))
      rcases List.mem_cons.mp hg with rfl | hg
      · have hzg := hz g (List.mem_cons_self ..)
        rcases zdom (x := x) (v := v) hh (h1 a (List.mem_cons_self ..)) hzg hx with q | q
        · obtain ⟨g', k1, k2⟩ := ih a (List.mem_cons_self ..)
          refine ⟨g', k1, ?_⟩
          have ha := hz a (by simp)
          have hg' : g'.1 < x := by
            rcases k1 with k1 | rfl
            · have := hz g' (List.mem_cons_of_mem _ (zpop_mem k1)); omega
            · exact hx
          exact zqle q k2 (by omega) (by omega) (by omega)
        · exact ⟨z, Or.inr rfl, q⟩
      · exact ih g hg
/-- scanning: on while it doesn't get flatter -/
def zscan (x v : Int) : zPt → List zPt → List zPt
  | h, [] => [h]
  | h, n :: r => if (v - n.2) * (x - h.1) < (v - h.2) * (x - n.1) then h :: n :: r else zscan x v n r
theorem zscan_spec {x v : Int} : ∀ (r : List zPt) (h : zPt), zinc (h :: r) → zcvx (h :: r) → (∀ g ∈ h :: r, g.1 < x) → ∃ h' r' p, zscan x v h r = h' :: r' ∧ h :: r = p ++ h' :: r' ∧ (∀ g ∈ h :: r, (v - g.2) * (x - h'.1) ≤ (v - h'.2) * (x - g.1))
  | [], h, _, _, _ => ⟨h, [], [], rfl, rfl, fun g hg => by simp at hg; rw [hg]; exact Int.le_refl _⟩
  | n :: r, h, hi, hc, hx => by
    rw [zscan]
    have hhn := (List.pairwise_cons.mp hi).1 n (List.mem_cons_self ..)
    have hhx := hx h (by simp)
    have hnx := hx n (by simp)
    split
    · rename_i hlt
      refine ⟨h, n :: r, [], rfl, rfl, fun g hg => ?_⟩
      rcases List.mem_cons.mp hg with rfl | hg
      · exact Int.le_refl _
      · rcases List.mem_cons.mp hg with rfl | hg
        · exact Int.le_of_lt hlt
        · have hcr := hc.1 g hg
          have hgx := hx g (by simp [hg])
          have hng := (List.pairwise_cons.mp (List.pairwise_cons.mp hi).2).1 g hg
          unfold zbend at hcr
          -- n lies above h–z, g above h–n
          have k1 := Int.mul_lt_mul_of_pos_right hcr (show 0 < x - h.1 by omega)
          have k2 := Int.mul_lt_mul_of_pos_right hlt (show 0 < g.1 - h.1 by omega)
          apply Int.le_of_lt
          apply Int.lt_of_mul_lt_mul_left (a := n.1 - h.1) _ (by omega)
          grind
    · rename_i hge
      obtain ⟨h', r', p, e1, e2, e3⟩ := zscan_spec r n (List.pairwise_cons.mp hi).2 hc.2 (fun g hg => hx g (List.mem_cons_of_mem _ hg))
      refine ⟨h', r', h :: p, e1, by rw [e2]; rfl, fun g hg => ?_⟩
      rcases List.mem_cons.mp hg with rfl | hg
      · have h2 := e3 n (List.mem_cons_self ..)
        have hh' : h'.1 < x := hx h' (by rw [e2]; simp)
        exact zqle (Int.not_lt.mp hge) h2 (by omega) (by omega) (by omega)
      · exact e3 g hg
/-- the side: tops of the first k places, bottoms of the first m, the greatest slope p/q -/
def zSI (x u v : Nat → Int) (k m : Nat) (H : List zPt) (p q : Int) : Prop :=
  ∃ h r, H = h :: r ∧ zinc H ∧ zcvx H ∧ (∀ g ∈ H, ∃ i, i < k ∧ g = (x i, u i)) ∧ 0 ≤ q ∧ (q = 0 → m ≤ 1) ∧
  (0 < q → ∀ i, i < k → p * (x i - h.1) ≤ (u i - h.2) * q) ∧
  (∀ i, i < k → ∀ X V : Int, (∀ j, j < m → x j < X) → (0 < q → p * (X - h.1) ≤ (V - h.2) * q) → ∃ g ∈ H, (V - u i) * (X - g.1) ≤ (V - g.2) * (X - x i)) ∧
  (0 < q → ∀ i j, i < j → j < m → (v j - u i) * q ≤ p * (x j - x i))
def zAt (x u v : Nat → Int) (m : Nat) (h : zPt) (p q : Int) : Prop := ∃ i j, i < j ∧ j < m ∧ h = (x i, u i) ∧ p = v j - u i ∧ q = x j - x i
def zbotH (H : List zPt) (p q X V : Int) : List zPt := match H with
  | [] => []
  | h :: r => if 0 < q ∧ (V - h.2) * q ≤ p * (X - h.1) then h :: r else zscan X V h r
def zbotF (H : List zPt) (p q X V : Int) : Prop := match H with
  | [] => True
  | h :: _ => 0 < q ∧ (V - h.2) * q ≤ p * (X - h.1)
theorem zSI_bot0 {x u v : Nat → Int} {k : Nat} {h : zPt} {r : List zPt} {p q : Int} (hs : zSI x u v k k (h :: r) p q) (hx : ∀ i, i < k → x i < x k) (hf : 0 < q ∧ (v k - h.2) * q ≤ p * (x k - h.1)) : zSI x u v k (k + 1) (h :: r) p q := by
  obtain ⟨h0, r0, e, hi, hc, hm, q0, q1, hd, hD, hf2⟩ := hs
  cases e
  refine ⟨h, r, rfl, hi, hc, hm, q0, fun e => by omega, hd, fun i hik X V hX hL => hD i hik X V (fun j hj => hX j (by omega)) hL, fun hq i j hij hj => ?_⟩
  rcases Nat.lt_or_ge j k with c | c
  · exact hf2 hq i j hij c
  · have : j = k := by omega
    subst this
    have := hd hq i hij
    grind
theorem zSI_bot1 {x u v : Nat → Int} {k : Nat} {h h' : zPt} {r r' : List zPt} {p q : Int} (hs : zSI x u v k k (h :: r) p q) (hx : ∀ i j, i < j → j ≤ k → x i < x j) (hf : ¬ (0 < q ∧ (v k - h.2) * q ≤ p * (x k - h.1))) (he : zscan (x k) (v k) h r = h' :: r') : zSI x u v k (k + 1) (h' :: r') (v k - h'.2) (x k - h'.1) ∧ zAt x u v (k + 1) h' (v k - h'.2) (x k - h'.1) ∧ 0 < x k - h'.1 ∧ (0 < q → p * (x k - h'.1) ≤ (v k - h'.2) * q) := by
  obtain ⟨h0, r0, e, hi, hc, hm, q0, q1, hd, hD, hf2⟩ := hs
  cases e
  have hmx : ∀ g ∈ h :: r, g.1 < x k := fun g hg => by
    obtain ⟨i, hik, e⟩ := hm g hg
    rw [e]; exact hx i k hik (Nat.le_refl _)
  obtain ⟨h1, r1, P, e1, e2, e3⟩ := zscan_spec (x := x k) (v := v k) r h hi hc hmx
  rw [he] at e1
  obtain ⟨rfl, rfl⟩ := List.cons.inj e1
  have hh' : h' ∈ h :: r := by rw [e2]; simp
  have hq' : 0 < x k - h'.1 := by have := hmx h' hh'; omega
  have hhx := hmx h (by simp)
  have hsl := e3 h (by simp)
  -- the new slope is no less than the old
  have hge : 0 < q → p * (x k - h'.1) ≤ (v k - h'.2) * q := fun hq => by
    have hlt : p * (x k - h.1) < (v k - h.2) * q := Int.not_le.mp (fun c => hf ⟨hq, c⟩)
    exact zqle (Int.le_of_lt hlt) hsl hq (by omega) hq'
  have hL0 : 0 < q → p * (x k - h.1) ≤ (v k - h.2) * q := fun hq => Int.le_of_lt (Int.not_le.mp (fun c => hf ⟨hq, c⟩))
  have hM : ∀ i, i < k → (v k - u i) * (x k - h'.1) ≤ (v k - h'.2) * (x k - x i) := fun i hik => by
    obtain ⟨g, hg, hgi⟩ := hD i hik (x k) (v k) (fun j hj => hx j k hj (Nat.le_refl _)) hL0
    have hgx := hmx g hg
    have hix := hx i k hik (Nat.le_refl _)
    exact zqle hgi (e3 g hg) (by omega) (by omega) hq'
  obtain ⟨i', hi', eh'⟩ := hm h' hh'
  have hd' : ∀ i, i < k → (v k - h'.2) * (x i - h'.1) ≤ (u i - h'.2) * (x k - h'.1) := fun i hik => by
    have := hM i hik
    grind
  have hi2 : zinc (h' :: r') := by
    rw [e2] at hi
    exact (List.pairwise_append.mp hi).2.1
  have hsuf : ∀ g ∈ h :: r, g ∈ h' :: r' ∨ g.1 < h'.1 := fun g hg => by
    rw [e2] at hg hi
    rcases List.mem_append.mp hg with hg | hg
    · exact Or.inr ((List.pairwise_append.mp hi).2.2 g hg h' (by simp))
    · exact Or.inl hg
  have hc2 : ∀ (P : List zPt) (L : List zPt), zcvx (P ++ L) → zcvx L := by
    intro P
    induction P with
    | nil => exact fun L h => h
    | cons a P ih =>
      intro L h
      apply ih L
      cases hPL : P ++ L with
      | nil => trivial
      | cons c t =>
        rw [List.cons_append, hPL] at h
        exact h.2
  refine ⟨⟨h', r', rfl, hi2, hc2 P _ (by rw [← e2]; exact hc), fun g hg => hm g (by rw [e2]; simp only [List.mem_append]; exact Or.inr hg), by omega, fun e => by omega, fun _ => hd', fun i hik X V hX hL => ?_, fun _ i j hij hj => ?_⟩, ⟨i', k, hi', by omega, eh', by rw [eh'], by rw [eh']⟩, hq', hge⟩
  · have hXk := hX k (by omega)
    have hL := hL hq'
    have hLold : 0 < q → p * (X - h.1) ≤ (V - h.2) * q := fun hq => by
      have k1 : (v k - h'.2) * (X - x k) ≤ (V - v k) * (x k - h'.1) := by grind
      have k2 := hge hq
      -- p/q ≤ p'/q' ≤ (V - v)/(X - x)
      have k3 : p * (X - x k) ≤ (V - v k) * q := zqle k2 (by grind) hq hq' (by omega)
      have := hL0 hq
      grind
    obtain ⟨g, hg, hgi⟩ := hD i hik X V (fun j hj => hX j (by omega)) hLold
    have hgX : g.1 < X := by have := hmx g hg; omega
    have hiX := hX i (by omega)
    have hh'X : h'.1 < X := by omega
    rcases hsuf g hg with hg' | hg'
    · exact ⟨g, hg', hgi⟩
    · refine ⟨h', by simp, zqle hgi ?_ (by omega) (by omega) (by omega)⟩
      obtain ⟨i2, hi2k, e⟩ := hm g hg
      have k1 := hd' i2 hi2k
      rw [show x i2 = g.1 by rw [e], show u i2 = g.2 by rw [e]] at k1
      -- g lies above the line through h'; the target too
      have k2 := Int.mul_le_mul_of_nonneg_right k1 (show 0 ≤ X - h'.1 by omega)
      have k3 := Int.mul_le_mul_of_nonneg_right hL (show 0 ≤ h'.1 - g.1 by omega)
      apply Int.le_of_mul_le_mul_left (a := x k - h'.1) _ hq'
      grind
  · rcases Nat.lt_or_ge j k with c | c
    · rcases Int.lt_or_le 0 q with hq | hq
      · have hij' := hx i j hij (by omega)
        exact zqle (hf2 hq i j hij c) (hge hq) (by omega) hq hq'
      · have := q1 (by omega)
        omega
    · have : j = k := by omega
      subst this
      exact hM i hij
theorem zSI_top {x u v : Nat → Int} {k : Nat} {h : zPt} {r : List zPt} {p q : Int} (hs : zSI x u v k (k + 1) (h :: r) p q) (hx : ∀ i, i < k → x i < x k) (hF : 0 < q → p * (x k - h.1) ≤ (u k - h.2) * q) : ∃ r', ztop (h :: r) (x k, u k) = h :: r' ∧ zSI x u v (k + 1) (k + 1) (h :: r') p q := by
  obtain ⟨h0, r0, e, hi, hc, hm, q0, q1, hd, hD, hf2⟩ := hs
  cases e
  have hmx : ∀ g ∈ h :: r, g.1 < x k := fun g hg => by
    obtain ⟨i, hik, e⟩ := hm g hg
    rw [e]; exact hx i hik
  obtain ⟨P, hP⟩ := zpop_suf (z := (x k, u k)) (l := (h :: r).reverse)
  have hrev : h :: r = (zpop (x k, u k) (h :: r).reverse).reverse ++ P.reverse := by
    rw [← List.reverse_append, ← hP, List.reverse_reverse]
  have hne : (zpop (x k, u k) (h :: r).reverse).reverse ≠ [] := by
    rw [ne_eq, List.reverse_eq_nil_iff]
    exact zpop_ne (by simp)
  obtain ⟨h2, r2, e2⟩ := List.exists_cons_of_ne_nil hne
  rw [e2, List.cons_append] at hrev
  obtain ⟨rfl, hr2⟩ := List.cons.inj hrev
  have hsub : ∀ g ∈ h :: r2, g ∈ h :: r := fun g hg => by
    rw [hr2]
    rcases List.mem_cons.mp hg with rfl | hg
    · simp
    · simp [hg]
  have hi2 : zinc (h :: r2) := by
    rw [hr2, ← List.cons_append] at hi
    exact (List.pairwise_append.mp hi).1
  have hpre : ∀ (A B : List zPt), zcvx (A ++ B) → zcvx A := by
    intro A
    induction A with
    | nil => exact fun _ _ => trivial
    | cons a A ih =>
      intro B hAB
      cases A with
      | nil => trivial
      | cons c A =>
        refine ⟨fun d hd => hAB.1 d (by simp [hd]), ih B hAB.2⟩
  have hc2 : zcvx (h :: r2) := by
    rw [hr2, ← List.cons_append] at hc
    exact hpre _ _ hc
  have hi3 : zinc ((h :: r2) ++ [(x k, u k)]) := List.pairwise_append.mpr ⟨hi2, by simp, fun a ha c hc => by
    rw [List.mem_singleton] at hc
    rw [hc]; exact hmx a (hsub a ha)⟩
  refine ⟨r2 ++ [(x k, u k)], by unfold ztop; rw [e2]; rfl, h, r2 ++ [(x k, u k)], rfl, hi3, ?_, fun g hg => ?_, q0, q1, fun hq i hik => ?_, fun i hik X V hX hL => ?_, hf2⟩
  · apply zcvx_push hc2 hi3
    intro a c T e
    rw [← e2] at e
    have := congrArg List.reverse e
    rw [List.reverse_reverse, List.reverse_append] at this
    exact zpop_top this
  · rw [← List.cons_append] at hg
    rcases List.mem_append.mp hg with hg | hg
    · obtain ⟨i, hik, e⟩ := hm g (hsub g hg)
      exact ⟨i, by omega, e⟩
    · rw [List.mem_singleton] at hg
      exact ⟨k, by omega, hg⟩
  · rcases Nat.lt_or_ge i k with c | c
    · exact hd hq i c
    · have : i = k := by omega
      subst this; exact hF hq
  · have hXk := hX k (by omega)
    rw [← List.cons_append]
    rcases Nat.lt_or_ge i k with c | c
    · obtain ⟨g, hg, hgi⟩ := hD i c X V hX hL
      have hrp : (h :: r).reverse.Pairwise (fun a c => c.1 < a.1) := List.pairwise_reverse.mpr hi
      obtain ⟨g', k1, k2⟩ := zpop_dom (z := (x k, u k)) (v := V) hXk hrp (fun g hg => hmx g (List.mem_reverse.mp hg)) g (List.mem_reverse.mpr hg)
      have hgX := hmx g hg
      have hiX := hX i (by omega)
      have hg'm : g' ∈ (h :: r2) ++ [(x k, u k)] := by
        rcases k1 with k1 | k1
        · rw [← e2]; exact List.mem_append_left _ (List.mem_reverse.mpr k1)
        · simp [k1]
      have hg'X : g'.1 < X := by
        rcases k1 with k1 | k1
        · have := hmx g' (List.mem_reverse.mp (zpop_mem k1)); omega
        · rw [k1]; exact hXk
      exact ⟨g', hg'm, zqle hgi k2 (by omega) (by omega) (by omega)⟩
    · have : i = k := by omega
      subst this
      exact ⟨(x i, u i), by simp, Int.le_refl _⟩
/-- the two sides together: one sees the other upside down -/
theorem zFeas {x u v u' v' : Nat → Int} {k : Nat} {h : zPt} {p q p' q' : Int} (hx : ∀ i, i < k → x i < x k) (hu : ∀ i, v' i = - u i) (hv : ∀ i, u' i = - v i) (huv : v k ≤ u k) (hAt : zAt x u v (k + 1) h p q) (hq : 0 < q) (hq' : 0 < q') (hf : ∀ i j, i < j → j < k + 1 → (v' j - u' i) * q' ≤ p' * (x j - x i)) (hno : p * q' + p' * q ≤ 0) : p * (x k - h.1) ≤ (u k - h.2) * q := by
  obtain ⟨i, j, hij, hj, rfl, rfl, rfl⟩ := hAt
  simp only
  rcases Nat.lt_or_ge j k with c | c
  · have h1 := hf j k c (by omega)
    rw [hu, hv] at h1
    have hjk := hx j c
    have k1 := Int.mul_le_mul_of_nonneg_right h1 (Int.le_of_lt hq)
    have k2 := Int.mul_le_mul_of_nonneg_right hno (show 0 ≤ x k - x j by omega)
    have k3 : (v j - u i) * (x k - x j) ≤ (u k - v j) * (x j - x i) := by
      apply Int.le_of_mul_le_mul_left (a := q') _ hq'
      grind
    grind
  · have : j = k := by omega
    subst this
    exact Int.mul_le_mul_of_nonneg_right (by omega) (by omega)
