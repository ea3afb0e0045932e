/-! a side in memory -/
theorem zabsmul {a c A C : Int} (h1 : -A ≤ a) (h2 : a ≤ A) (h3 : -C ≤ c) (h4 : c ≤ C) : -(A * C) ≤ a * c ∧ a * c ≤ A * C := by
  have k1 := Int.mul_nonneg (show 0 ≤ A - a by omega) (show 0 ≤ C + c by omega)
  have k2 := Int.mul_nonneg (show 0 ≤ A + a by omega) (show 0 ≤ C - c by omega)
  have k3 := Int.mul_nonneg (show 0 ≤ A - a by omega) (show 0 ≤ C - c by omega)
  have k4 := Int.mul_nonneg (show 0 ≤ A + a by omega) (show 0 ≤ C + c by omega)
  constructor <;> grind
theorem zl_mulB {x y : Int64} (h1 : -10000 ≤ x.toInt) (h2 : x.toInt ≤ 10000) (h3 : -10000000000 ≤ y.toInt) (h4 : y.toInt ≤ 10000000000) : (x * y).toInt = x.toInt * y.toInt := by
  have := zabsmul h1 h2 h3 h4
  exact zl_mul (by omega) (by omega)
theorem zrise {v t : Int32} (h1 : -1000 ≤ v.toInt ∧ v.toInt ≤ 1000) (h2 : -1000 ≤ t.toInt ∧ t.toInt ≤ 1000) : (Int32.toInt64 (v - t)).toInt = v.toInt - t.toInt := by
  rw [Int32.toInt_toInt64, zi_sub (by omega) (by omega)]
theorem zrun (x y : Int32) : (Int32.toInt64 x - Int32.toInt64 y).toInt = x.toInt - y.toInt := by
  have h1 := zi_rng x
  have h2 := zi_rng y
  rw [zl_sub, Int32.toInt_toInt64, Int32.toInt_toInt64]
  · rw [Int32.toInt_toInt64, Int32.toInt_toInt64]; omega
  · rw [Int32.toInt_toInt64, Int32.toInt_toInt64]; omega
def zSd (b : Bool) (a : Nat) : Prop := zSH[a]? = some (.inr 7) ∧ zSH[a + 1]? = some (.inl (0, 301)) ∧ zSH[a + 2]? = some (.inl (0, 301)) ∧ zP b a 0 = some (a + 1) ∧ zP b a 1 = some (a + 2)
theorem zSd_43 (b : Bool) : zSd b 43 := ⟨rfl, rfl, rfl, rfl, rfl⟩
theorem zSd_46 (b : Bool) : zSd b 46 := ⟨rfl, rfl, rfl, rfl, rfl⟩
theorem zSd_112 (b : Bool) : zSd b 112 := ⟨rfl, rfl, rfl, rfl, rfl⟩
theorem zSd_115 (b : Bool) : zSd b 115 := ⟨rfl, rfl, rfl, rfl, rfl⟩
/-- the points lie in the two rows from st on -/
def zpts (I : zI) (a st : Nat) (H : List zPt) : Prop := ∀ i g, H[i]? = some g → (I (a + 1) (st + i)).toInt = g.1 ∧ (I (a + 2) (st + i)).toInt = g.2
def zpb (H : List zPt) : Prop := ∀ g ∈ H, -1000 ≤ g.2 ∧ g.2 ≤ 1000
def zSide (I : zI) (J : zJ) (a k : Nat) (H : List zPt) (p q : Int) : Prop := ∃ st, I a 2 = Int32.ofNat st ∧ I a 3 = Int32.ofNat (st + H.length) ∧ zpts I a st H ∧ st + H.length ≤ k ∧ k ≤ 301 ∧ (J a 4).toInt = p ∧ (J a 5).toInt = q ∧ zpb H
section ZSD
variable (X : zv_X) {b : Bool}
theorem c_begin {I : zI} {J : zJ} {a : Nat} (hs : zSd b a) (p q : Int64) : ∃ I' J', zg_Side_begin_0 X a p q (zM b I J) = some (none, zM b I' J') ∧ zSide I' J' a 0 [] p.toInt q.toInt ∧ (∀ c, c ≠ a → I' c = I c ∧ J' c = J c) := by
  refine ⟨zst (zst I a 2 0) a 3 0, zsJ (zsJ J a 4 p) a 5 q, ?_, ⟨0, ?_, zst_self, fun i g h => by simp at h, Nat.le_refl _, by decide, ?_, by rw [zsJ_self], fun g hg => by simp at hg⟩, fun c hc => ⟨by rw [zst_ne hc, zst_ne hc], by rw [zsJ_ne hc, zsJ_ne hc]⟩⟩
  · simp only [zg_Side_begin_0_e, zob hs.1, zM_I, zM_J, zM_P, zM_wI, zM_wL, zrf]
  · rw [zst_off (by decide), zst_self]; rfl
  · rw [zsJ_off (by decide), zsJ_self]
theorem zpts_tail {I : zI} {a st : Nat} {h : zPt} {r : List zPt} (hp : zpts I a st (h :: r)) : zpts I a (st + 1) r := fun i g hg => by
  have := hp (i + 1) g (by simpa using hg)
  rw [show st + 1 + i = st + (i + 1) by omega]
  exact this
theorem zlpq {J : zJ} {a : Nat} {l3 l5 : Int64} : zsJ (zsJ J a 4 l3) a 5 l5 a 4 = l3 ∧ zsJ (zsJ J a 4 l3) a 5 l5 a 5 = l5 := by
  rw [zsJ_off (by decide), zsJ_self, zsJ_self]
  exact ⟨rfl, rfl⟩
theorem c_bot75 {J : zJ} {a : Nat} (hs : zSd b a) {x v : Int32} (hv : -1000 ≤ v.toInt ∧ v.toInt ≤ 1000) : ∀ (r : List zPt) (h : zPt) (st : Nat) (I : zI) (l3 l5 : Int64), zpts I a st (h :: r) → zpb (h :: r) → I a 2 = Int32.ofNat st → I a 3 = Int32.ofNat (st + (r.length + 1)) → st + (r.length + 1) ≤ 301 → l3.toInt = v.toInt - h.2 → l5.toInt = x.toInt - h.1 → ∃ I' st' h' r' p', zscan x.toInt v.toInt h r = h' :: r' ∧ h :: r = p' ++ h' :: r' ∧ zg_Side_addBottom_75 X a x v l3 l5 (Int32.ofNat (st + 1)) (zM b I J) = some (none, zM b I' (zsJ (zsJ J a 4 (Int64.ofInt (v.toInt - h'.2))) a 5 (Int64.ofInt (x.toInt - h'.1)))) ∧ I' a 2 = Int32.ofNat st' ∧ I' a 3 = I a 3 ∧ st' + (r'.length + 1) = st + (r.length + 1) ∧ zpts I' a st' (h' :: r') ∧ (∀ c, c ≠ a → I' c = I c)
  | [], h, st, I, l3, l5, hp, hb, h2, h3, hl, e3, e5 => by
    refine ⟨I, st, h, [], [], rfl, rfl, ?_, h2, rfl, rfl, hp, fun c _ => rfl⟩
    rw [zg_Side_addBottom_75_e]
    simp only [zM_I, zM_J, zM_P, zM_wI, zM_wL, zrf, zob hs.1, h3, zg_Side_addBottom_144_e, List.length_nil, Nat.zero_add]
    rw [if_pos ((zn_le (by simp at hl; omega) (by simp at hl; omega)).mpr (Nat.le_refl _)), ← e3, ← e5, Int64.ofInt_toInt, Int64.ofInt_toInt]
  | n :: r, h, st, I, l3, l5, hp, hb, h2, h3, hl, e3, e5 => by
    have hn := hp 1 n (by simp)
    have hnb := hb n (by simp)
    have hhb := hb h (by simp)
    simp only [List.length_cons] at h3 hl
    have er : (Int32.toInt64 (v - I (a + 2) (st + 1))).toInt = v.toInt - n.2 := by
      rw [zrise hv (by rw [hn.2]; exact hnb), hn.2]
    have eu : (Int32.toInt64 x - Int32.toInt64 (I (a + 1) (st + 1))).toInt = x.toInt - n.1 := by
      rw [zrun, hn.1]
    have hxr := zi_rng x
    have hnr := zi_rng (I (a + 1) (st + 1))
    rw [hn.1] at hnr
    have hhr := zi_rng (I (a + 1) (st + 0))
    rw [(hp 0 h rfl).1] at hhr
    have em1 : (Int32.toInt64 (v - I (a + 2) (st + 1)) * l5).toInt = (v.toInt - n.2) * (x.toInt - h.1) := by
      rw [zl_mulB, er, e5] <;> first | rw [er]; omega | rw [e5]; omega
    have em2 : (l3 * (Int32.toInt64 x - Int32.toInt64 (I (a + 1) (st + 1)))).toInt = (v.toInt - h.2) * (x.toInt - n.1) := by
      rw [zl_mulB, eu, e3] <;> first | rw [e3]; omega | rw [eu]; omega
    have key : zg_Side_addBottom_75 X a x v l3 l5 (Int32.ofNat (st + 1)) (zM b I J) = if (v.toInt - n.2) * (x.toInt - h.1) < (v.toInt - h.2) * (x.toInt - n.1) then zg_Side_addBottom_144 X a l3 l5 (zM b I J) else zg_Side_addBottom_75 X a x v (Int32.toInt64 (v - I (a + 2) (st + 1))) (Int32.toInt64 x - Int32.toInt64 (I (a + 1) (st + 1))) (Int32.ofNat (st + 1 + 1)) (zM b (zst I a 2 (Int32.ofNat (st + 1))) J) := by
      conv => lhs; rw [zg_Side_addBottom_75_e]
      simp only [zM_I, zM_J, zM_P, zM_wI, zM_wL, zrf, zob hs.1, h3, hs.2.2.2.1, hs.2.2.2.2]
      rw [if_neg (fun q => absurd ((zn_le (by omega) (by omega)).mp q) (by omega)), zix hs.2.2.1 (by omega) (by decide), zix hs.2.1 (by omega) (by decide), zg_Side_addBottom_125_e, zob hs.1, zM_wI, zn_add1]
      by_cases c : (v.toInt - n.2) * (x.toInt - h.1) < (v.toInt - h.2) * (x.toInt - n.1)
      · rw [if_pos c, if_neg]
        rw [lg_cmp_ge, zl_le, em1, em2]; omega
      · rw [if_neg c, if_pos]
        rw [lg_cmp_ge, zl_le, em1, em2]; omega
    rw [key, zscan]
    by_cases c : (v.toInt - n.2) * (x.toInt - h.1) < (v.toInt - h.2) * (x.toInt - n.1)
    · rw [if_pos c, if_pos c]
      refine ⟨I, st, h, n :: r, [], rfl, rfl, ?_, h2, rfl, rfl, hp, fun c _ => rfl⟩
      simp only [zg_Side_addBottom_144_e, zM_I, zM_J, zM_P, zM_wI, zM_wL, zrf, zob hs.1]
      rw [← e3, ← e5, Int64.ofInt_toInt, Int64.ofInt_toInt]
    · rw [if_neg c, if_neg c]
      obtain ⟨I', st', h', r', p', f1, f2, f3, f4, f5, f6, f7, f8⟩ := c_bot75 (J := J) hs (x := x) hv r n (st + 1) (zst I a 2 (Int32.ofNat (st + 1))) _ _ (fun i g hg => by
        have := zpts_tail hp i g hg
        rw [zst_ne (by omega), zst_ne (by omega)]; exact this) (fun g hg => hb g (List.mem_cons_of_mem _ hg)) zst_self (by rw [zst_off (by decide), h3]; congr 1; omega) (by omega) er eu
      refine ⟨I', st', h', r', h :: p', f1, by rw [f2]; rfl, f3, f4, by rw [f5, zst_off (by decide)], by simp only [List.length_cons]; omega, f7, fun c hc => by rw [f8 c hc, zst_ne hc]⟩
/-- what a bottom makes of a side -/
theorem c_bottom {I : zI} {J : zJ} {a k : Nat} {h : zPt} {r : List zPt} {p q : Int} (hs : zSd b a) {x v : Int32} (hv : -1000 ≤ v.toInt ∧ v.toInt ≤ 1000) (hS : zSide I J a k (h :: r) p q) (hp : -2000 ≤ p ∧ p ≤ 2000) (hq : 0 ≤ q ∧ q ≤ 5000000000) : ∃ I' J', zg_Side_addBottom_0 X a x v (zM b I J) = some (none, zM b I' J') ∧ (∀ c, c ≠ a → I' c = I c ∧ J' c = J c) ∧ ((0 < q ∧ (v.toInt - h.2) * q ≤ p * (x.toInt - h.1) ∧ zSide I' J' a k (h :: r) p q) ∨ (¬ (0 < q ∧ (v.toInt - h.2) * q ≤ p * (x.toInt - h.1)) ∧ ∃ h' r', zscan x.toInt v.toInt h r = h' :: r' ∧ zSide I' J' a k (h' :: r') (v.toInt - h'.2) (x.toInt - h'.1))) := by
  obtain ⟨st, s1, s2, s3, s4, s5, s6, s7, s8⟩ := hS
  simp only [List.length_cons] at s2 s4
  have hh : (I (a + 1) st).toInt = h.1 ∧ (I (a + 2) st).toInt = h.2 := s3 0 h rfl
  have hhb := s8 h (by simp)
  have hxr := zi_rng x
  have hhr := zi_rng (I (a + 1) st)
  rw [hh.1] at hhr
  have er : (Int32.toInt64 (v - I (a + 2) st)).toInt = v.toInt - h.2 := by
    rw [zrise hv (by rw [hh.2]; exact hhb), hh.2]
  have eu : (Int32.toInt64 x - Int32.toInt64 (I (a + 1) st)).toInt = x.toInt - h.1 := by
    rw [zrun, hh.1]
  have em1 : (Int32.toInt64 (v - I (a + 2) st) * J a 5).toInt = (v.toInt - h.2) * q := by
    rw [zl_mulB, er, s7] <;> first | rw [er]; omega | rw [s7]; omega
  have em2 : (J a 4 * (Int32.toInt64 x - Int32.toInt64 (I (a + 1) st))).toInt = p * (x.toInt - h.1) := by
    rw [zl_mulB, eu, s6] <;> first | rw [s6]; omega | rw [eu]; omega
  have e00 : (0 : Int64).toInt = 0 := rfl
  have key : zg_Side_addBottom_0 X a x v (zM b I J) = if 0 < q ∧ (v.toInt - h.2) * q ≤ p * (x.toInt - h.1) then some (none, zM b I J) else zg_Side_addBottom_75 X a x v (Int32.toInt64 (v - I (a + 2) st)) (Int32.toInt64 x - Int32.toInt64 (I (a + 1) st)) (Int32.ofNat (st + 1)) (zM b I J) := by
    simp only [zg_Side_addBottom_0_e, zg_Side_addBottom_12_e, zg_Side_addBottom_67_e, zM_I, zM_J, zM_P, zM_wI, zM_wL, zrf, zob hs.1, s1, s2, hs.2.2.2.1, hs.2.2.2.2, zn_add1]
    rw [if_pos ((zn_lt (by omega) (by omega)).mpr (by omega)), zix hs.2.2.1 (by omega) (by decide), zix hs.2.1 (by omega) (by decide)]
    by_cases c : 0 < q
    · have c1 : ¬ (lg_cmp (J a 5) 0 ≤ 0) := by
        rw [lg_cmp_le, zl_le, s7, e00]; omega
      rw [if_neg c1]
      by_cases d : (v.toInt - h.2) * q ≤ p * (x.toInt - h.1)
      · rw [if_neg (by rw [lg_cmp_gt, zl_lt, em1, em2]; omega), if_pos ⟨c, d⟩]
      · rw [if_pos (by rw [lg_cmp_gt, zl_lt, em1, em2]; omega), if_neg (fun q => d q.2)]
    · have c1 : (lg_cmp (J a 5) 0 ≤ 0) := by
        rw [lg_cmp_le, zl_le, s7, e00]; omega
      rw [if_pos c1, if_neg (fun q => c q.1)]
  rw [key]
  by_cases c : 0 < q ∧ (v.toInt - h.2) * q ≤ p * (x.toInt - h.1)
  · rw [if_pos c]
    exact ⟨I, J, rfl, fun c _ => ⟨rfl, rfl⟩, Or.inl ⟨c.1, c.2, st, s1, s2, s3, s4, s5, s6, s7, s8⟩⟩
  · rw [if_neg c]
    obtain ⟨I', st', h', r', p', f1, f2, f3, f4, f5, f6, f7, f8⟩ := c_bot75 X (b := b) (J := J) hs (x := x) hv r h st I _ _ s3 s8 s1 s2 (by omega) er eu
    have hm' : h' ∈ h :: r := by rw [f2]; simp
    have hb' := s8 h' hm'
    have hx' : -2147483648 ≤ h'.1 ∧ h'.1 ≤ 2147483647 := by
      have := (f7 0 h' rfl).1
      have h9 := zi_rng (I' (a + 1) (st' + 0))
      rw [this] at h9; exact h9
    refine ⟨I', _, f3, fun c hc => ⟨f8 c hc, by rw [zsJ_ne hc, zsJ_ne hc]⟩, Or.inr ⟨c, h', r', f1, st', f4, by rw [f5, s2]; congr 1; simp only [List.length_cons]; omega, f7, by simp only [List.length_cons]; omega, s5, ?_, ?_, fun g hg => s8 g (by rw [f2]; exact List.mem_append_right _ hg)⟩⟩
    · rw [zlpq.1, Int64.toInt_ofInt_of_le (by omega) (by omega)]
    · rw [zlpq.2, Int64.toInt_ofInt_of_le (by omega) (by omega)]
theorem zpts_rev {I : zI} {a st : Nat} {c g : zPt} {t : List zPt} (hp : zpts I a st (c :: g :: t).reverse) : ((I (a + 1) (st + (t.length + 1))).toInt = c.1 ∧ (I (a + 2) (st + (t.length + 1))).toInt = c.2) ∧ ((I (a + 1) (st + t.length)).toInt = g.1 ∧ (I (a + 2) (st + t.length)).toInt = g.2) ∧ zpts I a st (g :: t).reverse := by
  have e : (c :: g :: t).reverse = (g :: t).reverse ++ [c] := by simp
  have e2 : (g :: t).reverse = t.reverse ++ [g] := by simp
  refine ⟨hp _ c ?_, hp _ g ?_, fun i w hw => hp i w ?_⟩
  · rw [e, List.getElem?_append_right (by simp)]; simp
  · rw [e, List.getElem?_append_left (by simp), e2, List.getElem?_append_right (by simp)]; simp
  · have := (List.getElem?_eq_some_iff.mp hw).1
    rw [e, List.getElem?_append_left this]; exact hw
theorem c_pop {J : zJ} {a : Nat} (hs : zSd b a) {x u : Int32} (hu : -1000 ≤ u.toInt ∧ u.toInt ≤ 1000) : ∀ (L : List zPt) (st : Nat) (I : zI), zpts I a st L.reverse → zpb L → I a 2 = Int32.ofNat st → I a 3 = Int32.ofNat (st + L.length) → st + L.length ≤ 301 → ∃ I', zg_Side_addTop_0 X a x u (zM b I J) = zg_Side_addTop_108 X a x u (zM b I' J) ∧ I' a 2 = Int32.ofNat st ∧ I' a 3 = Int32.ofNat (st + (zpop (x.toInt, u.toInt) L).length) ∧ (∀ c, c ≠ a → I' c = I c)
  | [], st, I, hp, hb, h2, h3, hl => by
    refine ⟨I, ?_, h2, h3, fun c _ => rfl⟩
    rw [zg_Side_addTop_0_e]
    simp only [zM_I, zM_J, zM_P, zM_wI, zM_wL, zrf, zob hs.1, h2, h3, List.length_nil, Nat.add_zero]
    rw [if_pos]
    rw [zn_sub (Nat.le_refl _), Nat.sub_self]; decide
  | [c], st, I, hp, hb, h2, h3, hl => by
    refine ⟨I, ?_, h2, h3, fun c _ => rfl⟩
    simp only [List.length_singleton] at hl h3
    rw [zg_Side_addTop_0_e]
    simp only [zM_I, zM_J, zM_P, zM_wI, zM_wL, zrf, zob hs.1, h2, h3]
    rw [if_pos]
    rw [zn_sub (by omega), show st + 1 - st = 1 by omega]; decide
  | c :: g :: t, st, I, hp, hb, h2, h3, hl => by
    simp only [List.length_cons] at hl h3
    obtain ⟨hc, hg, ht⟩ := zpts_rev hp
    have hcb := hb c (by simp)
    have hgb := hb g (by simp)
    have hxr := zi_rng x
    have hcr := zi_rng (I (a + 1) (st + (t.length + 1)))
    rw [hc.1] at hcr
    have hgr := zi_rng (I (a + 1) (st + t.length))
    rw [hg.1] at hgr
    have e1 : (Int32.toInt64 (I (a + 2) (st + (t.length + 1)) - I (a + 2) (st + t.length))).toInt = c.2 - g.2 := by
      rw [zrise (by rw [hc.2]; exact hcb) (by rw [hg.2]; exact hgb), hc.2, hg.2]
    have e2 : (Int32.toInt64 (u - I (a + 2) (st + t.length))).toInt = u.toInt - g.2 := by
      rw [zrise hu (by rw [hg.2]; exact hgb), hg.2]
    have e3 : (Int32.toInt64 x - Int32.toInt64 (I (a + 1) (st + t.length))).toInt = x.toInt - g.1 := by rw [zrun, hg.1]
    have e4 : (Int32.toInt64 (I (a + 1) (st + (t.length + 1))) - Int32.toInt64 (I (a + 1) (st + t.length))).toInt = c.1 - g.1 := by rw [zrun, hc.1, hg.1]
    have m1 : (Int32.toInt64 (I (a + 2) (st + (t.length + 1)) - I (a + 2) (st + t.length)) * (Int32.toInt64 x - Int32.toInt64 (I (a + 1) (st + t.length)))).toInt = (c.2 - g.2) * (x.toInt - g.1) := by
      rw [zl_mulB, e1, e3] <;> first | rw [e1]; omega | rw [e3]; omega
    have m2 : (Int32.toInt64 (u - I (a + 2) (st + t.length)) * (Int32.toInt64 (I (a + 1) (st + (t.length + 1))) - Int32.toInt64 (I (a + 1) (st + t.length)))).toInt = (u.toInt - g.2) * (c.1 - g.1) := by
      rw [zl_mulB, e2, e4] <;> first | rw [e2]; omega | rw [e4]; omega
    have key : zg_Side_addTop_0 X a x u (zM b I J) = if (c.2 - g.2) * (x.toInt - g.1) < (u.toInt - g.2) * (c.1 - g.1) then zg_Side_addTop_108 X a x u (zM b I J) else zg_Side_addTop_0 X a x u (zM b (zst I a 3 (Int32.ofNat (st + (t.length + 1)))) J) := by
      conv => lhs; rw [zg_Side_addTop_0_e]
      simp only [zM_I, zM_J, zM_P, zM_wI, zM_wL, zrf, zob hs.1, h2, h3, hs.2.2.2.1, hs.2.2.2.2, zg_Side_addTop_95_e]
      rw [zn_sub (show st ≤ st + (t.length + 1 + 1) by omega), if_neg (fun q => absurd ((zkl2 (by omega)).mp q) (by omega)), zks1 (by omega), zks2 (by omega), show st + (t.length + 1 + 1) - 1 = st + (t.length + 1) by omega, show st + (t.length + 1 + 1) - 2 = st + t.length by omega]
      rw [zix hs.2.2.1 (by omega) (by decide), zix hs.2.2.1 (by omega) (by decide), zix hs.2.1 (by omega) (by decide), zix hs.2.2.1 (by omega) (by decide), zix hs.2.1 (by omega) (by decide), zix hs.2.1 (by omega) (by decide)]
      by_cases d : (c.2 - g.2) * (x.toInt - g.1) < (u.toInt - g.2) * (c.1 - g.1)
      · rw [if_pos d, if_neg]
        rw [lg_cmp_ge, zl_le, m1, m2]; omega
      · rw [if_neg d, if_pos]
        rw [lg_cmp_ge, zl_le, m1, m2]; omega
    rw [key, zpop]
    by_cases d : (c.2 - g.2) * (x.toInt - g.1) < (u.toInt - g.2) * (c.1 - g.1)
    · rw [if_pos d, if_pos d]
      exact ⟨I, rfl, h2, by rw [h3]; rfl, fun c _ => rfl⟩
    · rw [if_neg d, if_neg d]
      obtain ⟨I', f1, f2, f3, f4⟩ := c_pop (J := J) hs (x := x) hu (g :: t) st (zst I a 3 (Int32.ofNat (st + (t.length + 1)))) (fun i w hw => by
        have := ht i w hw
        rw [zst_ne (by omega), zst_ne (by omega)]; exact this) (fun w hw => hb w (List.mem_cons_of_mem _ hw)) (by rw [zst_off (by decide)]; exact h2) (by rw [zst_self]; rfl) (by simp only [List.length_cons]; omega)
      exact ⟨I', f1, f2, f3, fun c hc => by rw [f4 c hc, zst_ne hc]⟩
theorem c_top {I : zI} {J : zJ} {a k : Nat} {H : List zPt} {p q : Int} (hs : zSd b a) {x u : Int32} (hu : -1000 ≤ u.toInt ∧ u.toInt ≤ 1000) (hS : zSide I J a k H p q) (hk : k < 301) : ∃ I', zg_Side_addTop_0 X a x u (zM b I J) = some (none, zM b I' J) ∧ (∀ c, c ≠ a → c ≠ a + 1 → c ≠ a + 2 → I' c = I c) ∧ zSide I' J a (k + 1) (ztop H (x.toInt, u.toInt)) p q := by
  obtain ⟨st, s1, s2, s3, s4, s5, s6, s7, s8⟩ := hS
  obtain ⟨I1, f1, f2, f3, f4⟩ := c_pop X (b := b) (J := J) hs (x := x) hu H.reverse st I (by rw [List.reverse_reverse]; exact s3) (fun g hg => s8 g (List.mem_reverse.mp hg)) s1 (by rw [List.length_reverse]; exact s2) (by rw [List.length_reverse]; omega)
  have hle : (zpop (x.toInt, u.toInt) H.reverse).length ≤ H.length := by
    obtain ⟨P, hP⟩ := zpop_suf (z := (x.toInt, u.toInt)) (l := H.reverse)
    have := congrArg List.length hP
    rw [List.length_append, List.length_reverse] at this
    omega
  have hpre : ∃ Q, H = (zpop (x.toInt, u.toInt) H.reverse).reverse ++ Q := by
    obtain ⟨P, hP⟩ := zpop_suf (z := (x.toInt, u.toInt)) (l := H.reverse)
    refine ⟨P.reverse, ?_⟩
    rw [← List.reverse_append, ← hP, List.reverse_reverse]
  obtain ⟨Q, hQ⟩ := hpre
  generalize hT : zpop (x.toInt, u.toInt) H.reverse = T at *
  refine ⟨zst (zst (zst I1 (a + 1) (st + T.length) x) (a + 2) (st + T.length) u) a 3 (Int32.ofNat (st + T.length + 1)), ?_, fun c c1 c2 c3 => by rw [zst_ne c1, zst_ne c3, zst_ne c2, f4 c c1], st, ?_, ?_, fun i g hg => ?_, ?_, by omega, s6, s7, fun g hg => ?_⟩
  · rw [f1, zg_Side_addTop_108_e]
    simp only [zM_I, zM_J, zM_P, zM_wI, zM_wL, zrf, zob hs.1, hs.2.2.2.1, hs.2.2.2.2, f3, zlen' hs.2.1 (show 0 < 7 by decide)]
    rw [if_neg (fun q => absurd ((zn_le (by decide) (by omega)).mp q) (by omega)), zix hs.2.1 (by omega) (by decide), zst_ne (by omega), f3, zix hs.2.2.1 (by omega) (by decide), zg_Side_addTop_150_e, zst_ne (by omega), zst_ne (by omega), f3, zn_add1]
  · rw [zst_off (by decide), zst_ne (by omega), zst_ne (by omega), f2]
  · rw [zst_self]; unfold ztop; rw [hT]; congr 1; simp; omega
  · unfold ztop at hg
    rw [hT] at hg
    rcases zget_snoc hg with ⟨h1, h2⟩ | ⟨h1, h2⟩
    · rw [List.length_reverse] at h1
      rw [zst_ne (by omega), zst_ne (by omega), zst_off (by omega), f4 _ (by omega), zst_ne (by omega), zst_off (by omega), zst_ne (by omega), f4 _ (by omega)]
      apply s3 i g
      rw [hQ, List.getElem?_append_left (by rw [List.length_reverse]; exact h1)]
      exact h2
    · rw [List.length_reverse] at h1
      subst h1 h2
      rw [zst_ne (by omega), zst_ne (by omega), zst_self, zst_ne (by omega), zst_self]
      exact ⟨rfl, rfl⟩
  · unfold ztop; rw [hT]; simp; omega
  · unfold ztop at hg
    rw [hT] at hg
    rcases List.mem_append.mp hg with hg | hg
    · exact s8 g (by rw [hQ]; exact List.mem_append_left _ hg)
    · rw [List.mem_singleton] at hg
      rw [hg]; exact hu
end ZSD
