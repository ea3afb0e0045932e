/-! what a text tells -/
def zKV (K : zKL) : Prop := zSrt K ∧ K.length ≤ 300 ∧ (∀ q ∈ K, 1 ≤ q.2.toInt ∧ q.2.toInt ≤ 99) ∧ zKb K
abbrev zTT : Type := Nat → Int32
abbrev zno (K : zKL) (x y : Int32) : Prop := 99 < zcnt x K + y ∨ (¬ 0 < zcnt x K ∧ 300 ≤ K.length)
theorem zset_in {K : zKL} {x v : Int32} (hs : zSrt K) : ∀ q ∈ zset x v K, q ∈ K ∨ (q = (x, v) ∧ v ≠ 0) := by
  obtain ⟨A, B, h1, h2, hc⟩ := zways x K hs
  intro q hq
  rcases hc with ⟨hc, -, hz⟩ | ⟨c, hc, -, hz⟩
  · rw [hz v] at hq
    by_cases w : v = 0
    · rw [if_pos w] at hq
      exact Or.inl (by rw [hc]; exact hq)
    · rw [if_neg w] at hq
      rcases List.mem_append.mp hq with m | m
      · exact Or.inl (by rw [hc]; exact List.mem_append_left _ m)
      · rcases List.mem_cons.mp m with m | m
        · exact Or.inr ⟨m, w⟩
        · exact Or.inl (by rw [hc]; exact List.mem_append_right _ m)
  · rw [hz v] at hq
    by_cases w : v = 0
    · rw [if_pos w] at hq
      refine Or.inl ?_
      rw [hc]
      rcases List.mem_append.mp hq with m | m
      · exact List.mem_append_left _ m
      · exact List.mem_append_right _ (List.mem_cons_of_mem _ m)
    · rw [if_neg w] at hq
      rcases List.mem_append.mp hq with m | m
      · exact Or.inl (by rw [hc]; exact List.mem_append_left _ m)
      · rcases List.mem_cons.mp m with m | m
        · exact Or.inr ⟨m, w⟩
        · exact Or.inl (by rw [hc]; exact List.mem_append_right _ (List.mem_cons_of_mem _ m))
theorem zset_len3 {K : zKL} {x v : Int32} (h : zKV K) (hl : v = 0 ∨ zcnt x K ≠ 0 ∨ K.length < 300) : (zset x v K).length ≤ 300 := by
  obtain ⟨A, B, h1, h2, hc⟩ := zways x K h.1
  have h3 := h.2.1
  rcases hc with ⟨hc, h0, hz⟩ | ⟨c, hc, -, hz⟩
  · rw [hz v]
    have e : K.length = A.length + B.length := by rw [hc]; exact List.length_append ..
    by_cases w : v = 0
    · rw [if_pos w, List.length_append]; omega
    · rw [if_neg w, List.length_append, List.length_cons]
      rcases hl with q | q | q
      · exact absurd q w
      · exact absurd h0 q
      · omega
  · rw [hz v]
    have e : K.length = A.length + (B.length + 1) := by rw [hc]; simp
    by_cases w : v = 0
    · rw [if_pos w, List.length_append]; omega
    · rw [if_neg w, List.length_append, List.length_cons]; omega
theorem zKV_set {K : zKL} {x v : Int32} (h : zKV K) (hx : -999999999 ≤ x.toInt ∧ x.toInt ≤ 999999999) (hv : 0 ≤ v.toInt ∧ v.toInt ≤ 99) (hl : v = 0 ∨ zcnt x K ≠ 0 ∨ K.length < 300) : zKV (zset x v K) := by
  refine ⟨zSrt_set h.1, zset_len3 h hl, fun q hq => ?_, fun q hq => ?_⟩
  · rcases zset_in h.1 q hq with m | ⟨m, w⟩
    · exact h.2.2.1 q m
    · have : v.toInt ≠ 0 := fun e => w (zi_eq.mpr e)
      rw [m]
      show 1 ≤ v.toInt ∧ v.toInt ≤ 99
      omega
  · rcases zset_in h.1 q hq with m | ⟨m, w⟩
    · exact h.2.2.2 q m
    · rw [m]; exact hx
theorem zcom_ok {K : zKL} {x y : Int32} (h : zKV K) (hx : -999999999 ≤ x.toInt ∧ x.toInt ≤ 999999999) (hy : 1 ≤ y.toInt ∧ y.toInt ≤ 99) (hn : ¬ zno K x y) : 1 ≤ (zcnt x K + y).toInt ∧ (zcnt x K + y).toInt ≤ 99 ∧ (zcnt x K = 0 → K.length < 300) ∧ zKV (zset x (zcnt x K + y) K) := by
  have hr := zcnt_rng (x := x) h.2.2.1
  have ev : (zcnt x K + y).toInt = (zcnt x K).toInt + y.toInt := zi_add (by omega) (by omega)
  have e99 : (99 : Int32).toInt = 99 := rfl
  have e0 : (0 : Int32).toInt = 0 := rfl
  have n1 : (zcnt x K + y).toInt ≤ 99 := by
    have : ¬ 99 < zcnt x K + y := fun q => hn (Or.inl q)
    rw [zi_lt, e99] at this; omega
  have n2 : zcnt x K = 0 → K.length < 300 := fun q => by
    rcases Nat.lt_or_ge K.length 300 with w | w
    · exact w
    · refine absurd (Or.inr ⟨?_, w⟩) hn
      rw [q]; decide
  refine ⟨by omega, n1, n2, zKV_set h hx (by omega) (Or.inr ?_)⟩
  by_cases q : zcnt x K = 0
  · exact Or.inr (n2 q)
  · exact Or.inl q
abbrev zOut : Type := (Nat × Nat) ⊕ (Nat × zKL × zTT)
def zTu (T : zTT) (w : Nat) (v : Int32) : zTT := fun j => if j = w then v else T j
section ZTL
variable (g : Nat → Nat) (n : Nat)
def zNumK (k : Nat) (lo hi : Int32) (c : Int32 → zOut) : zOut := if zk g n k = 2 then (if zvl g n (zpt g n k) < lo ∨ hi < zvl g n (zpt g n k) then .inl (2, zpt g n k) else c (zvl g n (zpt g n k))) else .inl (1, zpt g n k)
def zCom (K : zKL) (T : zTT) (x y : Int32) (pl k' : Nat) : zOut := if zno K x y then .inl (3, pl) else .inr (k', zset x (zcnt x K + y) K, T)
def zAKey (k : Nat) (K : zKL) (T : zTT) : zOut := zNumK g n (k + 1) (-999999999) 999999999 (fun x => if zk g n (k + 2) = 2 then zNumK g n (k + 2) 1 99 (fun y => zCom K T x y (zpt g n k) (k + 3)) else zCom K T x 1 (zpt g n k) (k + 2))
def zRunL (x s : Int32) : Nat → Nat → zKL → Option zKL
  | 0, _, K => some K
  | m + 1, i, K => if zno K (x + Int32.ofNat i * s) 1 then none else zRunL x s m (i + 1) (zset (x + Int32.ofNat i * s) (zcnt (x + Int32.ofNat i * s) K + 1) K)
def zRunO (T : zTT) (pl k' : Nat) (o : Option zKL) : zOut := match o with
  | some K => .inr (k', K, T)
  | none => .inl (3, pl)
def zARun (k : Nat) (K : zKL) (T : zTT) : zOut := zNumK g n (k + 1) (-999999999) 999999999 (fun x => zNumK g n (k + 2) 1 99 (fun m => zNumK g n (k + 3) 1 99999 (fun s => if 999999999 < x + (m - 1) * s then .inl (2, zpt g n (k + 3)) else zRunO T (zpt g n k) (k + 4) (zRunL x s m.toInt.toNat 0 K))))
def zADrop (k : Nat) (K : zKL) (T : zTT) : zOut := zNumK g n (k + 1) (-999999999) 999999999 (fun x => .inr (k + 2, zset x 0 K, T))
def zASet (w k : Nat) (K : zKL) (T : zTT) : zOut := zNumK g n (k + 1) 0 (if w = 2 then 50 else 20) (fun v => .inr (k + 2, K, zTu T w v))
def zStm (k : Nat) (K : zKL) (T : zTT) : zOut := if zk g n k = 4 then zAKey g n k K T else if zk g n k = 5 then zARun g n k K T else if zk g n k = 6 then zADrop g n k K T else zASet g n (zk g n k - 7) k K T
def zStop (o : zOut) : zOut := match o with
  | .inl f => .inl f
  | .inr (k, K, T) => if zk g n k = 3 then .inr (k + 1, K, T) else .inl (1, zpt g n k)
def zTxt : Nat → Nat → zKL → zTT → (Nat × Nat) ⊕ (zKL × zTT)
  | 0, _, _, _ => .inl (0, 0)
  | m + 1, k, K, T => if zk g n k = 0 then .inr (K, T) else if zk g n k < 4 then .inl (1, zpt g n k) else if m = 0 then .inl (3, zpt g n k) else match zStop g n (zStm g n k K T) with
    | .inl f => .inl f
    | .inr (k', K', T') => zTxt m k' K' T'
end ZTL
/-! the object's reading -/
def zPO (I : zI) (g : Nat → Nat) (n N k : Nat) (K : zKL) (T : zTT) : Prop := zTks I g n N ∧ k ≤ N ∧ I 31 9 = Int32.ofNat k ∧ zKeys I 33 K ∧ (∀ j, j < 8 → I 36 j = T j) ∧ I 31 4 = 0 ∧ I 31 5 = -1
def zfrO (I I' : zI) : Prop := (∀ c, c ≠ 31 → c ≠ 33 → c ≠ 34 → c ≠ 35 → c ≠ 36 → I' c = I c) ∧ ∀ j, j ≠ 4 → j ≠ 5 → j ≠ 9 → I' 31 j = I 31 j
theorem zfrO_refl (I : zI) : zfrO I I := ⟨fun _ _ _ _ _ _ => rfl, fun _ _ _ _ => rfl⟩
theorem zfrO_tr {I I' I'' : zI} (h : zfrO I I') (h' : zfrO I' I'') : zfrO I I'' := ⟨fun c c1 c2 c3 c4 c5 => (h'.1 c c1 c2 c3 c4 c5).trans (h.1 c c1 c2 c3 c4 c5), fun j c1 c2 c3 => (h'.2 j c1 c2 c3).trans (h.2 j c1 c2 c3)⟩
theorem zfrO_st {I : zI} {j : Nat} {v : Int32} (hj : j = 4 ∨ j = 5 ∨ j = 9) : zfrO I (zst I 31 j v) := ⟨fun c hc _ _ _ _ => zst_ne hc, fun k h1 h2 h3 => zst_off (by omega)⟩
/-- a fault was found -/
def zFl (I I' : zI) (f p : Nat) : Prop := I' 31 4 = Int32.ofNat f ∧ I' 31 5 = Int32.ofNat p ∧ 1 ≤ f ∧ f ≤ 3 ∧ (∃ k, k ≤ 600 ∧ I' 31 9 = Int32.ofNat k) ∧ zfrO I I'
theorem zTks_fr {I I' : zI} {g : Nat → Nat} {n N : Nat} (h : zTks I g n N) (f : zfrO I I') : zTks I' g n N := by
  unfold zTks zTk at *
  rw [f.1 37 (by decide) (by decide) (by decide) (by decide) (by decide), f.1 38 (by decide) (by decide) (by decide) (by decide) (by decide), f.1 39 (by decide) (by decide) (by decide) (by decide) (by decide)]
  exact h
theorem zTks_lt {I : zI} {g : Nat → Nat} {n N k : Nat} (h : zTks I g n N) (hk : k ≤ N) (h0 : zk g n k ≠ 0) : k < N := by
  rcases Nat.lt_or_ge k N with w | w
  · exact w
  · have : k = N := by omega
    subst this
    exact absurd (zkd_0.mpr (by rw [h.2.1]; exact Nat.le_refl _)) h0
section ZTE
variable (X : zv_X) {b : Bool} {I : zI} {J : zJ} {g : Nat → Nat} {n N k : Nat} {K : zKL} {T : zTT}
theorem c_fail (f p : Int32) : zg_Teller_fail_0 X 31 f p (zM b I J) = some (some (.int 0), zM b (zst (zst I 31 4 f) 31 5 p) J) := by
  rw [zg_Teller_fail_0_e, zo31, zM_wI, zo31, zM_wI, zrb0]
theorem zFl_fail {f p k : Nat} (hf : 1 ≤ f ∧ f ≤ 3) (hk : k ≤ 600) (h9 : I 31 9 = Int32.ofNat k) : zFl I (zst (zst I 31 4 (Int32.ofNat f)) 31 5 (Int32.ofNat p)) f p :=
  ⟨by rw [zst_off (by decide), zst_self], zst_self, hf.1, hf.2, ⟨k, hk, by rw [zst_off (by decide), zst_off (by decide)]; exact h9⟩, zfrO_tr (zfrO_st (Or.inl rfl)) (zfrO_st (Or.inr (Or.inl rfl)))⟩
theorem zPO_next (h : zPO I g n N k K T) (hk : k < N) : zPO (zst I 31 9 (Int32.ofNat (k + 1))) g n N (k + 1) K T := by
  obtain ⟨h1, h2, h3, h4, h5, h6, h7⟩ := h
  refine ⟨zTks_fr h1 (zfrO_st (Or.inr (Or.inr rfl))), by omega, zst_self, ?_, fun j hj => by rw [zst_ne (by decide)]; exact h5 j hj, by rw [zst_off (by decide)]; exact h6, by rw [zst_off (by decide)]; exact h7⟩
  unfold zKeys at *
  rw [zst_ne (by decide), zst_ne (by decide), zst_ne (by decide)]
  exact h4
theorem c_take (h : zPO I g n N k K T) {kd : Nat} {l : Int32} (hl : l = Int32.ofNat kd) (hkd : kd < 10) : (zkO (zk g n k) = kd → zg_Teller_take_0 X 31 l (zM b I J) = some (some (.int 1), zM b (zst I 31 9 (Int32.ofNat (k + 1))) J)) ∧ (zkO (zk g n k) ≠ kd → zg_Teller_take_0 X 31 l (zM b I J) = some (some (.int 0), zM b (zst (zst I 31 4 (Int32.ofNat 1)) 31 5 (Int32.ofNat (zpt g n k))) J)) := by
  obtain ⟨h1, h2, h3, h4, h5, h6, h7⟩ := h
  have hN := h1.1
  have ht := h1.2.2.2 k h2
  have hr := zkd_rng (g := g) (n := n) (zpt g n k)
  have hO : zkO (zk g n k) < 10 := by
    unfold zkO
    repeat' split
    all_goals omega
  constructor
  · intro e
    rw [zg_Teller_take_0_e, zo31, zM_P, zp31_6, zrf, zo31, zM_I, h3, zx37 (by omega), ht.2.1, hl, if_pos (by rw [e]), zg_Teller_take_28_e, zo31, zo31, zM_wI, zM_I, h3, zn_add1, zrb1]
  · intro e
    rw [zg_Teller_take_0_e, zo31, zM_P, zp31_6, zrf, zo31, zM_I, h3, zx37 (by omega), ht.2.1, hl, if_neg (fun q => e ((zn_eq (by omega) (by omega)).mp q)), zo31, zp31_7, zrf, zo31, zx38 (by omega), zo31, ht.1, c_fail, zci, zrb0]
    rfl
theorem zkO_2 {c : Nat} : zkO c = 2 ↔ c = 2 := by
  unfold zkO
  repeat' split
  all_goals omega
theorem zkO_3 {c : Nat} : zkO c = 3 ↔ c = 3 := by
  unfold zkO
  repeat' split
  all_goals omega
theorem zkO_0 {c : Nat} : zkO c = 0 ↔ c = 0 := by
  unfold zkO
  repeat' split
  all_goals omega
theorem zkO_1 {c : Nat} : zkO c = 1 ↔ 4 ≤ c := by
  unfold zkO
  repeat' split
  all_goals omega
theorem zkO_lt {c : Nat} (h : c < 10) : zkO c < 10 := by
  unfold zkO
  repeat' split
  all_goals omega
/-- taking a number: it is there, or a fault is found -/
theorem c_takeNumber (h : zPO I g n N k K T) (lo hi : Int32) : (zk g n k = 2 ∧ k < N ∧ ¬ (zvl g n (zpt g n k) < lo ∨ hi < zvl g n (zpt g n k)) ∧ zg_Teller_takeNumber_0 X 31 lo hi (zM b I J) = some (some (.int 1), zM b (zst I 31 9 (Int32.ofNat (k + 1))) J)) ∨ ∃ f p I', (∀ c, zNumK g n k lo hi c = .inl (f, p)) ∧ zg_Teller_takeNumber_0 X 31 lo hi (zM b I J) = some (some (.int 0), zM b I' J) ∧ zFl I I' f p := by
  have hN := h.1.1
  have hk := h.2.1
  have e2 : (2 : Int32) = Int32.ofNat 2 := rfl
  obtain ⟨t1, t2⟩ := c_take X (b := b) (J := J) h (kd := 2) e2 (by decide)
  have ht := h.1.2.2.2 k hk
  by_cases c : zk g n k = 2
  · have hlt := zTks_lt h.1 hk (by omega)
    have hv := ht.2.2.1 c
    have e1 : zst I 31 9 (Int32.ofNat (k + 1)) 39 = I 39 := zst_ne (by decide)
    have e38 : zst I 31 9 (Int32.ofNat (k + 1)) 38 = I 38 := zst_ne (by decide)
    have ek : (k + 1) - 1 = k := by omega
    by_cases d : zvl g n (zpt g n k) < lo ∨ hi < zvl g n (zpt g n k)
    · refine Or.inr ⟨2, zpt g n k, zst (zst (zst I 31 9 (Int32.ofNat (k + 1))) 31 4 (Int32.ofNat 2)) 31 5 (Int32.ofNat (zpt g n k)), fun cc => by unfold zNumK; rw [if_pos c, if_pos d], ?_, ?_⟩
      · have h40 : zg_Teller_takeNumber_40 X 31 (zM b (zst I 31 9 (Int32.ofNat (k + 1))) J) = some (some (.int 0), zM b (zst (zst (zst I 31 9 (Int32.ofNat (k + 1))) 31 4 (Int32.ofNat 2)) 31 5 (Int32.ofNat (zpt g n k))) J) := by
          rw [zg_Teller_takeNumber_40_e, zo31, zM_P, zp31_7, zrf, zo31, zM_I, zst_self, zn_sub1 (by omega), ek, zx38 (by omega), zo31, e38, ht.1, c_fail, zci, zrb0]
          rfl
        rw [zg_Teller_takeNumber_0_e, zo31, t1 (zkO_2.mpr c), zci, if_neg (by decide), zg_Teller_takeNumber_10_e, zo31, zM_P, zp31_8, zrf, zo31, zM_I, zst_self, zn_sub1 (by omega), ek, zx39 (by omega), e1, hv]
        by_cases d1 : zvl g n (zpt g n k) < lo
        · rw [if_pos d1, h40]
        · rw [if_neg d1, zo31, zrf, zo31, zx39 (by omega), e1, hv, if_neg (fun q => ?_), h40]
          have := d.resolve_left d1
          rw [zi_lt] at this
          rw [zi_le] at q
          omega
      · have := zFl_fail (I := zst I 31 9 (Int32.ofNat (k + 1))) (f := 2) (p := zpt g n k) (k := k + 1) (by omega) (by omega) zst_self
        exact ⟨this.1, this.2.1, this.2.2.1, this.2.2.2.1, this.2.2.2.2.1, zfrO_tr (zfrO_st (Or.inr (Or.inr rfl))) this.2.2.2.2.2⟩
    · refine Or.inl ⟨c, hlt, d, ?_⟩
      rw [zg_Teller_takeNumber_0_e, zo31, t1 (zkO_2.mpr c), zci, if_neg (by decide), zg_Teller_takeNumber_10_e, zo31, zM_P, zp31_8, zrf, zo31, zM_I, zst_self, zn_sub1 (by omega), ek, zx39 (by omega), e1, hv, if_neg (fun q => d (Or.inl q)), zo31, zrf, zo31, zx39 (by omega), e1, hv, if_pos (by
        have : ¬ hi < zvl g n (zpt g n k) := fun q => d (Or.inr q)
        rw [zi_lt] at this
        rw [zi_le]; omega), zg_Teller_takeNumber_57_e, zrb1]
  · refine Or.inr ⟨1, zpt g n k, _, fun cc => by unfold zNumK; rw [if_neg c], ?_, zFl_fail (by omega) (by omega) h.2.2.1⟩
    rw [zg_Teller_takeNumber_0_e, zo31, t2 (fun q => c (zkO_2.mp q)), zci, if_pos rfl, zrb0]
/-- the outcome of reading on -/
def zOR (b : Bool) (J : zJ) (g : Nat → Nat) (n N : Nat) (I : zI) (call : Option zv_R) (o : zOut) : Prop := ∃ I', (∃ k' K' T', o = .inr (k', K', T') ∧ call = some (some (.int 1), zM b I' J) ∧ zPO I' g n N k' K' T' ∧ zKV K' ∧ zfrO I I') ∨ (∃ f p, o = .inl (f, p) ∧ call = some (some (.int 0), zM b I' J) ∧ zFl I I' f p)
theorem zFl_tr {I0 I I' : zI} {f p : Nat} (h : zFl I I' f p) (f0 : zfrO I0 I) : zFl I0 I' f p := ⟨h.1, h.2.1, h.2.2.1, h.2.2.2.1, h.2.2.2.2.1, zfrO_tr f0 h.2.2.2.2.2⟩
theorem zOR_tr {I0 : zI} {call : Option zv_R} {o : zOut} (h : zOR b J g n N I call o) (f0 : zfrO I0 I) : zOR b J g n N I0 call o := by
  obtain ⟨I', ⟨k', K', T', h1, h2, h3, h4, h5⟩ | ⟨f, p, h1, h2, h3⟩⟩ := h
  · exact ⟨I', Or.inl ⟨k', K', T', h1, h2, h3, h4, zfrO_tr f0 h5⟩⟩
  · exact ⟨I', Or.inr ⟨f, p, h1, h2, zFl_tr h3 f0⟩⟩
theorem zPO_chg {I' : zI} {K' : zKL} (h : zPO I g n N k K T) (ho : zoff3 I I' 33) (hk : zKeys I' 33 K') : zPO I' g n N k K' T ∧ zfrO I I' := by
  have fr : zfrO I I' := ⟨fun c _ c2 c3 c4 _ => ho c c2 c3 c4, fun j _ _ _ => by rw [ho 31 (by decide) (by decide) (by decide)]⟩
  obtain ⟨h1, h2, h3, h4, h5, h6, h7⟩ := h
  have e31 : I' 31 = I 31 := ho 31 (by decide) (by decide) (by decide)
  exact ⟨⟨zTks_fr h1 fr, h2, by rw [e31]; exact h3, hk, fun j hj => by rw [ho 36 (by decide) (by decide) (by decide)]; exact h5 j hj, by rw [e31]; exact h6, by rw [e31]; exact h7⟩, fr⟩
theorem zbd9 {x : Int32} (h : ¬ (x < -999999999 ∨ 999999999 < x)) : -999999999 ≤ x.toInt ∧ x.toInt ≤ 999999999 := by
  have b1 : (-999999999 : Int32).toInt = -999999999 := rfl
  have b2 : (999999999 : Int32).toInt = 999999999 := rfl
  rw [zi_lt, zi_lt, b1, b2] at h
  omega
theorem c_com {w : Nat} {x y : Int32} (h : zPO I g n N k K T) (hv : zKV K) (hx : -999999999 ≤ x.toInt ∧ x.toInt ≤ 999999999) (hy : 1 ≤ y.toInt ∧ y.toInt ≤ 99) (hw : w ≤ N) : zOR b J g n N I (zg_Teller_readKey_64 X 31 (Int32.ofNat w) x y (zM b I J)) (zCom K T x y (zpt g n w) k) := by
  have hN := h.1.1
  have ht := h.1.2.2.2 w hw
  have ct := s_canTake X (b := b) (I := I) (J := J) (a := 33) (x := x) (zKy_33 b) h.2.2.2.1 hv.1 y
  unfold zCom
  by_cases c : zno K x y
  · refine ⟨_, Or.inr ⟨3, zpt g n w, by rw [if_pos c], ?_, zFl_fail (by omega) (by have := h.2.1; omega) h.2.2.1⟩⟩
    rw [zg_Teller_readKey_64_e, zo31, zM_P, zp31_2, zrf, zo33, ct, zci, if_pos c, if_pos rfl, zo31, zM_P, zp31_7, zrf, zx38 (by omega), zo31, zM_I, ht.1, c_fail, zci, zrb0]
    rfl
  · obtain ⟨v1, v2, v3, v4⟩ := zcom_ok hv hx hy c
    have e0 : (0 : Int32).toInt = 0 := rfl
    obtain ⟨I', q1, q2, q3⟩ := s_change X (b := b) (J := J) (a := 33) (x := x) (y := y) (v := zcnt x K + y) (zKy_33 b) h.2.2.2.1 hv.1 rfl (by rw [zi_le, e0]; omega) (fun q => ⟨v3 q, by rw [zi_lt, e0]; omega⟩)
    obtain ⟨p1, p2⟩ := zPO_chg h q3 q2
    refine ⟨I', Or.inl ⟨_, _, _, by rw [if_neg c], ?_, p1, v4, p2⟩⟩
    rw [zg_Teller_readKey_64_e, zo31, zM_P, zp31_2, zrf, zo33, ct, zci, if_neg c, if_neg (by decide), zg_Teller_readKey_88_e, zo31, zM_P, zp31_2, zrf, zo33, q1, zcv, zrb1]
theorem zNumK_y {k : Nat} {lo hi : Int32} {c : Int32 → zOut} (h : zk g n k = 2) (h2 : ¬ (zvl g n (zpt g n k) < lo ∨ hi < zvl g n (zpt g n k))) : zNumK g n k lo hi c = c (zvl g n (zpt g n k)) := by
  unfold zNumK
  rw [if_pos h, if_neg h2]
theorem c_readKey {w : Nat} (h : zPO I g n N (w + 1) K T) (hv : zKV K) : zOR b J g n N I (zg_Teller_readKey_0 X 31 (Int32.ofNat w) (zM b I J)) (zAKey g n w K T) := by
  have hN := h.1.1
  have hw := h.2.1
  unfold zAKey
  rcases c_takeNumber X (b := b) (J := J) h (-999999999) 999999999 with ⟨a1, a2, a3, a4⟩ | ⟨f, p, I', a1, a2, a3⟩
  · rw [zNumK_y a1 a3]
    have hx := zbd9 a3
    have hv39 : I 39 (w + 1) = zvl g n (zpt g n (w + 1)) := (h.1.2.2.2 _ hw).2.2.1 a1
    generalize zvl g n (zpt g n (w + 1)) = x at *
    have h1 := zPO_next h a2
    have f1 : zfrO I (zst I 31 9 (Int32.ofNat (w + 1 + 1))) := zfrO_st (Or.inr (Or.inr rfl))
    have e39 : zst I 31 9 (Int32.ofNat (w + 1 + 1)) 39 = I 39 := zst_ne (by decide)
    have e9 : zst I 31 9 (Int32.ofNat (w + 1 + 1)) 31 9 = Int32.ofNat (w + 1 + 1) := zst_self
    have ht2 := h1.1.2.2.2 _ h1.2.1
    have hkr := zkO_lt (zkd_rng (g := g) (n := n) (zpt g n (w + 1 + 1)))
    have hkr2 : zkO (zk g n (w + 2)) < 10 := hkr
    have e2 : (2 : Int32) = Int32.ofNat 2 := rfl
    refine zOR_tr ?_ f1
    have st : zg_Teller_readKey_0 X 31 (Int32.ofNat w) (zM b I J) = zg_Teller_readKey_13 X 31 (Int32.ofNat w) (zM b (zst I 31 9 (Int32.ofNat (w + 1 + 1))) J) := by
      rw [zg_Teller_readKey_0_e, zo31, a4, zci, if_neg (by decide)]
    rw [st]
    generalize zst I 31 9 (Int32.ofNat (w + 1 + 1)) = I1 at *
    by_cases d : zk g n (w + 2) = 2
    · rw [if_pos d]
      have d13 : zg_Teller_readKey_13 X 31 (Int32.ofNat w) (zM b I1 J) = zv_ci (zg_Teller_takeNumber_0 X 31 1 99 (zM b I1 J)) (fun v6 M5 => if v6 = 0 then zv_rb 0 M5 else zg_Teller_readKey_52 X 31 (Int32.ofNat w) x M5) := by
        rw [zg_Teller_readKey_13_e, zo31, zM_P, zp31_8, zrf, zo31, zM_I, e9, zn_sub1 (by omega), show w + 1 + 1 - 1 = w + 1 by omega, zx39 (by omega), e39, hv39, zo31, zp31_6, zrf, zo31, zx37 (by omega), ht2.2.1, if_pos (by rw [zkO_2.mpr d]; rfl), zo31]
      rw [d13]
      rcases c_takeNumber X (b := b) (J := J) h1 1 99 with ⟨b1, b2, b3, b4⟩ | ⟨f, p, I', b1, b2, b3⟩
      · have hv2 : I1 39 (w + 1 + 1) = zvl g n (zpt g n (w + 1 + 1)) := ht2.2.2.1 b1
        have hn : zNumK g n (w + 2) 1 99 (fun y => zCom K T x y (zpt g n w) (w + 3)) = zCom K T x (zvl g n (zpt g n (w + 2))) (zpt g n w) (w + 3) := zNumK_y b1 b3
        rw [hn]
        have hy : 1 ≤ (zvl g n (zpt g n (w + 2))).toInt ∧ (zvl g n (zpt g n (w + 2))).toInt ≤ 99 := by
          have c1 : (1 : Int32).toInt = 1 := rfl
          have c2 : (99 : Int32).toInt = 99 := rfl
          have := b3
          rw [zi_lt, zi_lt, c1, c2] at this
          show 1 ≤ (zvl g n (zpt g n (w + 1 + 1))).toInt ∧ (zvl g n (zpt g n (w + 1 + 1))).toInt ≤ 99
          omega
        have h2 := zPO_next h1 b2
        have := c_com X (b := b) (J := J) (w := w) (x := x) (y := zvl g n (zpt g n (w + 2))) h2 hv hx hy (by omega)
        refine zOR_tr ?_ (zfrO_st (I := I1) (j := 9) (v := Int32.ofNat (w + 1 + 1 + 1)) (Or.inr (Or.inr rfl)))
        have s52 : zg_Teller_readKey_52 X 31 (Int32.ofNat w) x (zM b (zst I1 31 9 (Int32.ofNat (w + 1 + 1 + 1))) J) = zg_Teller_readKey_64 X 31 (Int32.ofNat w) x (zvl g n (zpt g n (w + 2))) (zM b (zst I1 31 9 (Int32.ofNat (w + 1 + 1 + 1))) J) := by
          rw [zg_Teller_readKey_52_e, zo31, zM_P, zp31_8, zrf, zo31, zM_I, zst_self, zn_sub1 (by omega), show w + 1 + 1 + 1 - 1 = w + 1 + 1 by omega, zx39 (by omega), zst_ne (by decide), hv2]
        rw [b4, zci, if_neg (by decide), s52]
        exact this
      · refine ⟨I', Or.inr ⟨f, p, b1 _, ?_, b3⟩⟩
        rw [b2, zci, if_pos rfl, zrb0]
    · rw [if_neg d]
      have := c_com X (b := b) (J := J) (w := w) (x := x) (y := 1) h1 hv hx (by decide) (by omega)
      have d13 : zg_Teller_readKey_13 X 31 (Int32.ofNat w) (zM b I1 J) = zg_Teller_readKey_64 X 31 (Int32.ofNat w) x 1 (zM b I1 J) := by
        rw [zg_Teller_readKey_13_e, zo31, zM_P, zp31_8, zrf, zo31, zM_I, e9, zn_sub1 (by omega), show w + 1 + 1 - 1 = w + 1 by omega, zx39 (by omega), e39, hv39, zo31, zp31_6, zrf, zo31, zx37 (by omega), ht2.2.1, e2, if_neg (fun q => d (zkO_2.mp ((zn_eq (by omega) (by decide)).mp q)))]
      rw [d13]
      exact this
  · refine ⟨I', Or.inr ⟨f, p, a1 _, ?_, a3⟩⟩
    rw [zg_Teller_readKey_0_e, zo31, a2, zci, if_pos rfl, zrb0]
end ZTE
