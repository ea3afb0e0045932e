/-! levels over levels -/
def zel (e u l : Nat) : Nat := if l = 0 then e else u
noncomputable def zT (f : Nat → Int) (n e u : Nat) : Nat → (Nat → Int) × Nat
  | 0 => (f, n)
  | l + 1 => (fun k => (zT f n e u l).1 (zF (zT f n e u l).1 (zT f n e u l).2 (zel e u l) k), zNp (zT f n e u l).1 (zT f n e u l).2 (zel e u l))
noncomputable def zTf (f : Nat → Int) (n e u l : Nat) : Nat → Int := (zT f n e u l).1
noncomputable def zTn (f : Nat → Int) (n e u l : Nat) : Nat := (zT f n e u l).2
section ZTW
variable {f : Nat → Int} {n e u : Nat}
theorem zTf_0 : zTf f n e u 0 = f := rfl
theorem zTn_0 : zTn f n e u 0 = n := rfl
theorem zTf_s (l : Nat) : zTf f n e u (l + 1) = fun k => zTf f n e u l (zF (zTf f n e u l) (zTn f n e u l) (zel e u l) k) := rfl
theorem zTn_s (l : Nat) : zTn f n e u (l + 1) = zNp (zTf f n e u l) (zTn f n e u l) (zel e u l) := rfl
theorem zT_fb (h : zfb f) : ∀ l, zfb (zTf f n e u l)
  | 0 => h
  | l + 1 => fun i => zT_fb h l _
theorem zT_up (h : zupto f n) : ∀ l, zupto (zTf f n e u l) (zTn f n e u l)
  | 0 => h
  | l + 1 => fun i j hij hj => by
    rw [zTn_s] at hj
    rw [zTf_s]
    exact zT_up h l _ _ (zF_mono hij (Nat.le_of_lt hj)) ((zNp_spec _ _ _).2 j hj)
theorem zT_half (h : zupto f n) (l : Nat) : zTn f n e u (l + 1) ≤ (zTn f n e u l + 1) / 2 := by
  rw [zTn_s]; exact zNp_half (zT_up h l)
theorem zT_bd (h : zupto f n) (hn : n ≤ 300) : zTn f n e u 0 ≤ 300 ∧ zTn f n e u 1 ≤ 150 ∧ zTn f n e u 2 ≤ 75 ∧ zTn f n e u 3 ≤ 38 ∧ zTn f n e u 4 ≤ 19 ∧ zTn f n e u 5 ≤ 10 ∧ zTn f n e u 6 ≤ 5 ∧ zTn f n e u 7 ≤ 3 ∧ zTn f n e u 8 ≤ 2 ∧ zTn f n e u 9 ≤ 1 := by
  have h0 : zTn f n e u 0 = n := rfl
  have h1 := zT_half (e := e) (u := u) h 0
  have h2 := zT_half (e := e) (u := u) h 1
  have h3 := zT_half (e := e) (u := u) h 2
  have h4 := zT_half (e := e) (u := u) h 3
  have h5 := zT_half (e := e) (u := u) h 4
  have h6 := zT_half (e := e) (u := u) h 5
  have h7 := zT_half (e := e) (u := u) h 6
  have h8 := zT_half (e := e) (u := u) h 7
  have h9 := zT_half (e := e) (u := u) h 8
  simp only [Nat.zero_add, Nat.reduceAdd] at *
  omega
def zcap (l : Nat) : Nat := 300 / 2 ^ l + 2
theorem zT_cap (h : zupto f n) (hn : n ≤ 300) {l : Nat} (hl : l < 10) : zTn f n e u l ≤ zcap l := by
  have := zT_bd (e := e) (u := u) h hn
  rcases (by omega : l = 0 ∨ l = 1 ∨ l = 2 ∨ l = 3 ∨ l = 4 ∨ l = 5 ∨ l = 6 ∨ l = 7 ∨ l = 8 ∨ l = 9) with rfl | rfl | rfl | rfl | rfl | rfl | rfl | rfl | rfl | rfl <;> (show _ ≤ _; unfold zcap; simp only [Nat.reducePow, Nat.reduceDiv, Nat.reduceAdd]; omega)
theorem zT_300 (h : zupto f n) (hn : n ≤ 300) {l : Nat} (hl : l < 10) : zTn f n e u l ≤ 300 := by
  have := zT_bd (e := e) (u := u) h hn
  rcases (by omega : l = 0 ∨ l = 1 ∨ l = 2 ∨ l = 3 ∨ l = 4 ∨ l = 5 ∨ l = 6 ∨ l = 7 ∨ l = 8 ∨ l = 9) with rfl | rfl | rfl | rfl | rfl | rfl | rfl | rfl | rfl | rfl <;> omega
/-- how many levels -/
def zHt (f : Nat → Int) (n e u H : Nat) : Prop := (n = 0 ∧ H = 0) ∨ (0 < n ∧ 1 ≤ H ∧ zTn f n e u H ≤ 1 ∧ ∀ l, 1 ≤ l → l < H → 1 < zTn f n e u l)
theorem zHt_uniq {H H' : Nat} (h : zHt f n e u H) (h' : zHt f n e u H') : H = H' := by
  rcases h with ⟨h1, h2⟩ | ⟨h1, h2, h3, h4⟩ <;> rcases h' with ⟨g1, g2⟩ | ⟨g1, g2, g3, g4⟩
  · omega
  · omega
  · omega
  · rcases Nat.lt_trichotomy H H' with c | c | c
    · have := g4 H h2 c; omega
    · exact c
    · have := h4 H' g2 c; omega
theorem zHt_9 (h : zupto f n) (hn : n ≤ 300) {H : Nat} (hH : zHt f n e u H) : H ≤ 9 := by
  have := zT_bd (e := e) (u := u) h hn
  rcases hH with ⟨h1, h2⟩ | ⟨h1, h2, h3, h4⟩
  · omega
  · rcases Nat.lt_or_ge 9 H with c | c
    · have := h4 9 (by omega) c; omega
    · exact c
end ZTW
def zCvS (b : Bool) (cv : Nat) : Prop := zSH[cv]? = some (.inr 1) ∧ zP b cv 0 = some (cv + 1) ∧ zP b cv 1 = some (cv + 2) ∧ (∃ t, (4 ≤ t ∧ t < 7) ∧ zSH[cv + 1]? = some (.inl (t, 10))) ∧ (∀ l, l < 10 → zP b (cv + 1) l = some (cv + 9 + 6 * l) ∧ zLs b (cv + 9 + 6 * l) (zcap l)) ∧ zFt b (cv + 2)
theorem zLs_49 (b : Bool) : zLs b 49 302 := ⟨rfl, rfl, rfl, rfl, rfl, rfl, rfl, rfl, rfl, rfl, rfl, by decide⟩
theorem zLs_55 (b : Bool) : zLs b 55 152 := ⟨rfl, rfl, rfl, rfl, rfl, rfl, rfl, rfl, rfl, rfl, rfl, by decide⟩
theorem zLs_61 (b : Bool) : zLs b 61 77 := ⟨rfl, rfl, rfl, rfl, rfl, rfl, rfl, rfl, rfl, rfl, rfl, by decide⟩
theorem zLs_67 (b : Bool) : zLs b 67 39 := ⟨rfl, rfl, rfl, rfl, rfl, rfl, rfl, rfl, rfl, rfl, rfl, by decide⟩
theorem zLs_73 (b : Bool) : zLs b 73 20 := ⟨rfl, rfl, rfl, rfl, rfl, rfl, rfl, rfl, rfl, rfl, rfl, by decide⟩
theorem zLs_79 (b : Bool) : zLs b 79 11 := ⟨rfl, rfl, rfl, rfl, rfl, rfl, rfl, rfl, rfl, rfl, rfl, by decide⟩
theorem zLs_85 (b : Bool) : zLs b 85 6 := ⟨rfl, rfl, rfl, rfl, rfl, rfl, rfl, rfl, rfl, rfl, rfl, by decide⟩
theorem zLs_91 (b : Bool) : zLs b 91 4 := ⟨rfl, rfl, rfl, rfl, rfl, rfl, rfl, rfl, rfl, rfl, rfl, by decide⟩
theorem zLs_97 (b : Bool) : zLs b 97 3 := ⟨rfl, rfl, rfl, rfl, rfl, rfl, rfl, rfl, rfl, rfl, rfl, by decide⟩
theorem zLs_103 (b : Bool) : zLs b 103 2 := ⟨rfl, rfl, rfl, rfl, rfl, rfl, rfl, rfl, rfl, rfl, rfl, by decide⟩
theorem zCvS_40 (b : Bool) : zCvS b 40 := by
  refine ⟨rfl, rfl, rfl, ⟨4, by decide, rfl⟩, fun l hl => ?_, zFt_42 b⟩
  rcases (by omega : l = 0 ∨ l = 1 ∨ l = 2 ∨ l = 3 ∨ l = 4 ∨ l = 5 ∨ l = 6 ∨ l = 7 ∨ l = 8 ∨ l = 9) with rfl | rfl | rfl | rfl | rfl | rfl | rfl | rfl | rfl | rfl
  · exact ⟨rfl, zLs_49 b⟩
  · exact ⟨rfl, zLs_55 b⟩
  · exact ⟨rfl, zLs_61 b⟩
  · exact ⟨rfl, zLs_67 b⟩
  · exact ⟨rfl, zLs_73 b⟩
  · exact ⟨rfl, zLs_79 b⟩
  · exact ⟨rfl, zLs_85 b⟩
  · exact ⟨rfl, zLs_91 b⟩
  · exact ⟨rfl, zLs_97 b⟩
  · exact ⟨rfl, zLs_103 b⟩
theorem zLs_118 (b : Bool) : zLs b 118 302 := ⟨rfl, rfl, rfl, rfl, rfl, rfl, rfl, rfl, rfl, rfl, rfl, by decide⟩
theorem zLs_124 (b : Bool) : zLs b 124 152 := ⟨rfl, rfl, rfl, rfl, rfl, rfl, rfl, rfl, rfl, rfl, rfl, by decide⟩
theorem zLs_130 (b : Bool) : zLs b 130 77 := ⟨rfl, rfl, rfl, rfl, rfl, rfl, rfl, rfl, rfl, rfl, rfl, by decide⟩
theorem zLs_136 (b : Bool) : zLs b 136 39 := ⟨rfl, rfl, rfl, rfl, rfl, rfl, rfl, rfl, rfl, rfl, rfl, by decide⟩
theorem zLs_142 (b : Bool) : zLs b 142 20 := ⟨rfl, rfl, rfl, rfl, rfl, rfl, rfl, rfl, rfl, rfl, rfl, by decide⟩
theorem zLs_148 (b : Bool) : zLs b 148 11 := ⟨rfl, rfl, rfl, rfl, rfl, rfl, rfl, rfl, rfl, rfl, rfl, by decide⟩
theorem zLs_154 (b : Bool) : zLs b 154 6 := ⟨rfl, rfl, rfl, rfl, rfl, rfl, rfl, rfl, rfl, rfl, rfl, by decide⟩
theorem zLs_160 (b : Bool) : zLs b 160 4 := ⟨rfl, rfl, rfl, rfl, rfl, rfl, rfl, rfl, rfl, rfl, rfl, by decide⟩
theorem zLs_166 (b : Bool) : zLs b 166 3 := ⟨rfl, rfl, rfl, rfl, rfl, rfl, rfl, rfl, rfl, rfl, rfl, by decide⟩
theorem zLs_172 (b : Bool) : zLs b 172 2 := ⟨rfl, rfl, rfl, rfl, rfl, rfl, rfl, rfl, rfl, rfl, rfl, by decide⟩
theorem zCvS_109 (b : Bool) : zCvS b 109 := by
  refine ⟨rfl, rfl, rfl, ⟨4, by decide, rfl⟩, fun l hl => ?_, zFt_111 b⟩
  rcases (by omega : l = 0 ∨ l = 1 ∨ l = 2 ∨ l = 3 ∨ l = 4 ∨ l = 5 ∨ l = 6 ∨ l = 7 ∨ l = 8 ∨ l = 9) with rfl | rfl | rfl | rfl | rfl | rfl | rfl | rfl | rfl | rfl
  · exact ⟨rfl, zLs_118 b⟩
  · exact ⟨rfl, zLs_124 b⟩
  · exact ⟨rfl, zLs_130 b⟩
  · exact ⟨rfl, zLs_136 b⟩
  · exact ⟨rfl, zLs_142 b⟩
  · exact ⟨rfl, zLs_148 b⟩
  · exact ⟨rfl, zLs_154 b⟩
  · exact ⟨rfl, zLs_160 b⟩
  · exact ⟨rfl, zLs_166 b⟩
  · exact ⟨rfl, zLs_172 b⟩
/-- a level whose slack is known only if it has keys -/
def zLv0 (I : zI) (J : zJ) (lv : Nat) (f : Nat → Int) (n e : Nat) : Prop := I lv 1 = Int32.ofNat n ∧ (0 < n → I lv 2 = Int32.ofNat e) ∧ I lv 3 = Int32.ofNat (zNp f n e) ∧ (∀ i, i < n → (I (lv + 1) i).toInt = f i) ∧ zPcs I J lv f n e (zNp f n e)
theorem zLv0_of {I : zI} {J : zJ} {lv n e : Nat} {f : Nat → Int} (h : zLv I J lv f n e) : zLv0 I J lv f n e := ⟨h.1, fun _ => h.2.1, h.2.2⟩
theorem zLv0_to {I : zI} {J : zJ} {lv n e : Nat} {f : Nat → Int} (h : zLv0 I J lv f n e) (hn : 0 < n) : zLv I J lv f n e := ⟨h.1, h.2.1 hn, h.2.2⟩
def zCov (I : zI) (J : zJ) (cv : Nat) (f : Nat → Int) (n e u H : Nat) : Prop := I cv 2 = Int32.ofNat H ∧ zHt f n e u H ∧ zLv0 I J (cv + 9) f n e ∧ ∀ l, l < H → zLv I J (cv + 9 + 6 * l) (zTf f n e u l) (zTn f n e u l) (zel e u l)
theorem zLv_frame {I I' : zI} {J J' : zJ} {lv n e : Nat} {f : Nat → Int} (h : zLv I J lv f n e) (h1 : ∀ a, lv ≤ a → a ≤ lv + 5 → I' a = I a ∧ J' a = J a) : zLv I' J' lv f n e := by
  obtain ⟨y1, y2, y3, y4, y5⟩ := h
  refine ⟨by rw [(h1 lv (by omega) (by omega)).1]; exact y1, by rw [(h1 lv (by omega) (by omega)).1]; exact y2, by rw [(h1 lv (by omega) (by omega)).1]; exact y3, fun i hi => by rw [(h1 (lv + 1) (by omega) (by omega)).1]; exact y4 i hi, fun k hk => ?_⟩
  rw [(h1 (lv + 2) (by omega) (by omega)).1, (h1 (lv + 3) (by omega) (by omega)).1, (h1 (lv + 4) (by omega) (by omega)).1, (h1 (lv + 5) (by omega) (by omega)).2]
  exact y5 k hk
theorem zLv0_frame {I I' : zI} {J J' : zJ} {lv n e : Nat} {f : Nat → Int} (h : zLv0 I J lv f n e) (h1 : ∀ a, lv ≤ a → a ≤ lv + 5 → I' a = I a ∧ J' a = J a) : zLv0 I' J' lv f n e := by
  obtain ⟨y1, y2, y3, y4, y5⟩ := h
  refine ⟨by rw [(h1 lv (by omega) (by omega)).1]; exact y1, by rw [(h1 lv (by omega) (by omega)).1]; exact y2, by rw [(h1 lv (by omega) (by omega)).1]; exact y3, fun i hi => by rw [(h1 (lv + 1) (by omega) (by omega)).1]; exact y4 i hi, fun k hk => ?_⟩
  rw [(h1 (lv + 2) (by omega) (by omega)).1, (h1 (lv + 3) (by omega) (by omega)).1, (h1 (lv + 4) (by omega) (by omega)).1, (h1 (lv + 5) (by omega) (by omega)).2]
  exact y5 k hk
section ZOV
variable (X : zv_X) {b : Bool}
theorem zcvlev {I : zI} {J : zJ} {cv l : Nat} {α : Type} {k : Nat → Option α} (hc : zCvS b cv) (hl : l < 10) : zv_iq (zM b I J) (cv + 1) (Int32.ofNat l) (fun j => zv_rf ((zM b I J).2.2.2 (cv + 1) j) k) = k (cv + 9 + 6 * l) := by
  obtain ⟨t, ht, hs⟩ := hc.2.2.2.1
  rw [ziq hs ht hl (by decide), zM_P, (hc.2.2.2.2.1 l hl).1, zrf]
theorem c_over46 {cv n e u : Nat} {f : Nat → Int} (hc : zCvS b cv) (hf : zfb f) (hu : zupto f n) (hn : n ≤ 300) (hn0 : 0 < n) (hu20 : u ≤ 20) : ∀ (m h : Nat) (I : zI) (J : zJ), h + m = 10 → 1 ≤ h → I cv 2 = Int32.ofNat h → (∀ l, 1 ≤ l → l < h → 1 < zTn f n e u l) → (∀ l, l < h → zLv I J (cv + 9 + 6 * l) (zTf f n e u l) (zTn f n e u l) (zel e u l)) → ∃ I' J' H, zg_Cover_over_46 X cv (Int32.ofNat u) (zM b I J) = some (none, zM b I' J') ∧ zCov I' J' cv f n e u H ∧ ∀ a, (a < cv ∨ cv + 68 < a) → I' a = I a ∧ J' a = J a := by
  have hbd := zT_bd (e := e) (u := u) hu hn
  intro m
  induction m with
  | zero =>
    intro h I J hm h1 hh hl hlv
    exfalso
    have := hl 9 (by omega) (by omega)
    omega
  | succ m ih =>
    intro h I J hm h1 hh hl hlv
    have hc0 := hc.1
    have hlv1 := hlv (h - 1) (by omega)
    have hp : I (cv + 9 + 6 * (h - 1)) 3 = Int32.ofNat (zTn f n e u h) := by
      have := hlv1.2.2.1
      rw [← zTn_s, show h - 1 + 1 = h by omega] at this
      exact this
    have hs1 := (hc.2.2.2.2.1 (h - 1) (by omega)).2
    have h300 := zT_300 (e := e) (u := u) hu hn (l := h) (by omega)
    by_cases hd : zTn f n e u h ≤ 1
    · refine ⟨I, J, h, ?_, ⟨hh, Or.inr ⟨hn0, h1, hd, hl⟩, zLv0_of (hlv 0 (by omega)), hlv⟩, fun a _ => ⟨rfl, rfl⟩⟩
      rw [zg_Cover_over_46_e]
      simp only [zob hc0, zM_I, hh, zM_P, hc.2.1, zrf]
      rw [if_neg (fun q => absurd ((zkn0 (by omega)).mp q) (by omega)), if_neg (fun q => absurd ((zkh10 (by omega)).mp q) (by omega)), zn_sub1 h1]
      have lk := fun (k : Nat → Option (Option Value × zv_M)) => (zcvlev (I := I) (J := J) (l := h - 1) (k := k) hc (by omega))
      simp only [zM_P] at lk
      rw [lk, zob hs1.1, hp, if_pos ((zkn1 (by omega)).mpr hd), zg_Cover_over_134_e]
    · have h9 : h < 9 := by
        rcases Nat.lt_or_ge h 9 with c | c
        · exact c
        · have : h = 9 := by omega
          subst this; omega
      have hs2 := (hc.2.2.2.2.1 h (by omega)).2
      have hcap2 := zT_cap (e := e) (u := u) hu hn (l := h - 1) (by omega)
      have hcap := zT_cap (e := e) (u := u) hu hn (l := h) (by omega)
      have eN : zNp (zTf f n e u (h - 1)) (zTn f n e u (h - 1)) (zel e u (h - 1)) = zTn f n e u h := by
        rw [← zTn_s, show h - 1 + 1 = h by omega]
      obtain ⟨I1, a1, a2, a3, a4⟩ := c_takeFirst X (b := b) hs2 hs1 (by omega) hcap2 (zT_up hu _) (by rw [eN]; exact hcap) hlv1
      have eF : ∀ i, zTf f n e u (h - 1) (zF (zTf f n e u (h - 1)) (zTn f n e u (h - 1)) (zel e u (h - 1)) i) = zTf f n e u h i := fun i => by
        have := zTf_s (f := f) (n := n) (e := e) (u := u) (h - 1)
        rw [show h - 1 + 1 = h by omega] at this
        rw [this]
      rw [eN] at a2 a3
      obtain ⟨I2, J2, b1, b2, b3⟩ := c_coverBy X (b := b) (I := I1) (J := J) (f := zTf f n e u h) (n := zTn f n e u h) (e := u) hs2 hc.2.2.2.2.2 (by omega) hu20 hcap (by omega) (zT_fb hf h) (zT_up hu h) a2 (fun i hi => by rw [a3 i hi, eF])
      have cvI : I2 cv = I cv := by rw [(b3 cv (by omega) (by omega)).1, a4 cv (by omega) (by omega)]
      have cvI1 : I1 cv = I cv := a4 cv (by omega) (by omega)
      obtain ⟨I', J', H, f1, f2, f3⟩ := ih (h + 1) (zst I2 cv 2 (Int32.ofNat (h + 1))) J2 (by omega) (by omega) zst_self (fun l l1 l2 => by
        rcases Nat.lt_or_ge l h with c | c
        · exact hl l l1 c
        · have : l = h := by omega
          subst this; omega) (fun l l2 => by
        rcases Nat.lt_or_ge l h with c | c
        · exact zLv_frame (hlv l c) (fun a w1 w2 => by
            rw [zst_ne (by omega), (b3 a (by omega) (by omega)).1, a4 a (by omega) (by omega), (b3 a (by omega) (by omega)).2]
            exact ⟨rfl, rfl⟩)
        · have : l = h := by omega
          subst this
          rw [show zel e u l = u by unfold zel; rw [if_neg (by omega)]]
          exact zLv_frame b2 (fun a w1 w2 => by rw [zst_ne (by omega)]; exact ⟨rfl, rfl⟩))
      refine ⟨I', J', H, ?_, f2, fun a ha => ?_⟩
      · rw [← f1, zg_Cover_over_46_e]
        simp only [zob hc0, zM_I, hh, zM_P, hc.2.1, zrf]
        rw [if_neg (fun q => absurd ((zkn0 (by omega)).mp q) (by omega)), if_neg (fun q => absurd ((zkh10 (by omega)).mp q) (by omega)), zn_sub1 h1]
        have lk := fun (I : zI) (J : zJ) (l : Nat) (hl : l < 10) (k : Nat → Option (Option Value × zv_M)) => (zcvlev (I := I) (J := J) (l := l) (k := k) hc hl)
        simp only [zM_P] at lk
        rw [lk I J (h - 1) (by omega), zob hs1.1, hp, if_neg (fun q => hd ((zkn1 (by omega)).mp q)), lk I J h (by omega), lk I J (h - 1) (by omega), zob hs2.1, a1, zcv, zob hc0, zM_P, hc.2.1, zrf, zob hc0, zM_I, cvI1, hh, lk I1 J h (by omega), zob hc0, hc.2.2.1, zrf, zob hs2.1, b1, zcv, zob hc0, zob hc0, zM_I, cvI, hh, zM_wI, zn_add1]
      · obtain ⟨w1, w2⟩ := f3 a ha
        rw [w1, w2, zst_ne (by omega), (b3 a (by omega) (by omega)).1, a4 a (by omega) (by omega), (b3 a (by omega) (by omega)).2]
        exact ⟨rfl, rfl⟩
theorem c_over0 {I : zI} {J : zJ} {cv n e u ar N : Nat} {f : Nat → Int} (hc : zCvS b cv) (hf : zfb f) (hu : zupto f n) (hn : n ≤ 300) (he20 : e ≤ 20) (hu20 : u ≤ 20) (har : zSH[ar]? = some (.inl (0, N))) (hN : N < 2 ^ 20) (hnN : n ≤ N) (hac : ar < cv ∨ cv + 68 < ar) (hr : ∀ i, i < n → (I ar i).toInt = f i) : ∃ I' J' H, zg_Cover_over_0 X cv ar (Int32.ofNat n) (Int32.ofNat e) (Int32.ofNat u) (zM b I J) = some (none, zM b I' J') ∧ (zCov I' J' cv f n e u H ∧ zLv I' J' (cv + 9) f n e) ∧ ∀ a, (a < cv ∨ cv + 68 < a) → I' a = I a ∧ J' a = J a := by
  have hc0 := hc.1
  have hs := (hc.2.2.2.2.1 0 (by decide)).2
  obtain ⟨I1, a1, a2, a3, a4⟩ := c_takeRow X (b := b) (I := I) (J := J) (n := n) hs har hN hnN (by unfold zcap; simp; omega) (by omega)
  obtain ⟨I2, J2, b1, b2, b3⟩ := c_coverBy X (b := b) (I := I1) (J := J) (f := f) (n := n) (e := e) hs hc.2.2.2.2.2 (by omega) he20 (by unfold zcap; simp; omega) hn hf hu a2 (fun i hi => by rw [a3 i hi]; exact hr i hi)
  rw [Nat.mul_zero, Nat.add_zero] at b2 a1 b1
  have lk := fun (I : zI) (J : zJ) (l : Nat) (hl : l < 10) (k : Nat → Option (Option Value × zv_M)) => (zcvlev (I := I) (J := J) (l := l) (k := k) hc hl)
  simp only [zM_P] at lk
  have lk0 := fun (I : zI) (J : zJ) (k : Nat → Option (Option Value × zv_M)) => (show zv_iq (zM b I J) (cv + 1) 0 (fun j => zv_rf (zP b (cv + 1) j) k) = k (cv + 9) from lk I J 0 (by decide) k)
  have hs0 := hs.1
  rw [Nat.mul_zero, Nat.add_zero] at hs0
  have start : ∀ r, zg_Cover_over_46 X cv (Int32.ofNat u) (zM b (zst I2 cv 2 (if n = 0 then 0 else 1)) J2) = r → zg_Cover_over_0 X cv ar (Int32.ofNat n) (Int32.ofNat e) (Int32.ofNat u) (zM b I J) = r := fun r hr => by
    rw [zg_Cover_over_0_e, zob hc0, zM_P, hc.2.1, zrf, lk0, zob hs0, a1, zcv, zob hc0, zM_P, hc.2.1, zrf, lk0, zob hc0, hc.2.2.1, zrf, zob hs0, b1, zcv, zob hc0, zM_P, hc.2.1, zrf, lk0, zob hs0, zM_I, b2.1, ← hr]
    by_cases d : n = 0
    · rw [if_pos ((zkn0 (by omega)).mpr (by omega)), if_pos d, zg_Cover_over_42_e, zg_Cover_over_43_e, zob hc0, zM_wI]
    · rw [if_neg (fun q => absurd ((zkn0 (by omega)).mp q) (by omega)), if_neg d, zg_Cover_over_43_e, zob hc0, zM_wI]
  have fr2 : ∀ a, (a < cv ∨ cv + 68 < a) → I2 a = I a ∧ J2 a = J a := fun a ha => by
    rw [(b3 a (by omega) (by omega)).1, (b3 a (by omega) (by omega)).2, a4 a (by omega) (by omega)]
    exact ⟨rfl, rfl⟩
  by_cases d : n = 0
  · subst d
    refine ⟨zst I2 cv 2 0, J2, 0, ?_, ⟨⟨by rw [zst_self]; rfl, Or.inl ⟨rfl, rfl⟩, zLv0_of <| zLv_frame b2 (fun a w1 w2 => by rw [zst_ne (by omega)]; exact ⟨rfl, rfl⟩), fun l hl => by omega⟩, zLv_frame b2 (fun a w1 w2 => by rw [zst_ne (by omega)]; exact ⟨rfl, rfl⟩)⟩, fun a ha => by rw [zst_ne (by omega)]; exact fr2 a ha⟩
    apply start
    rw [if_pos rfl, zg_Cover_over_46_e, zob hc0, zM_I, zst_self, if_pos (by decide), zg_Cover_over_134_e]
  · obtain ⟨I', J', H, f1, f2, f3⟩ := c_over46 X (b := b) (e := e) hc hf hu hn (by omega) hu20 9 1 (zst I2 cv 2 1) J2 (by decide) (by decide) zst_self (fun l l1 l2 => by omega) (fun l l2 => by
      have : l = 0 := by omega
      subst this
      rw [Nat.mul_zero, Nat.add_zero]
      exact zLv_frame b2 (fun a w1 w2 => by rw [zst_ne (by omega)]; exact ⟨rfl, rfl⟩))
    refine ⟨I', J', H, start _ (by rw [if_neg d]; exact f1), ⟨f2, zLv0_to f2.2.2.1 (by omega)⟩, fun a ha => ?_⟩
    obtain ⟨w1, w2⟩ := f3 a ha
    rw [w1, w2, zst_ne (by omega)]
    exact fr2 a ha
theorem c_over {I : zI} {J : zJ} {cv n e u ar N : Nat} {f : Nat → Int} (hc : zCvS b cv) (hf : zfb f) (hu : zupto f n) (hn : n ≤ 300) (he20 : e ≤ 20) (hu20 : u ≤ 20) (har : zSH[ar]? = some (.inl (0, N))) (hN : N < 2 ^ 20) (hnN : n ≤ N) (hac : ar < cv ∨ cv + 68 < ar) (hr : ∀ i, i < n → (I ar i).toInt = f i) : ∃ I' J' H, zg_Cover_over_0 X cv ar (Int32.ofNat n) (Int32.ofNat e) (Int32.ofNat u) (zM b I J) = some (none, zM b I' J') ∧ zCov I' J' cv f n e u H ∧ ∀ a, (a < cv ∨ cv + 68 < a) → I' a = I a ∧ J' a = J a := by
  obtain ⟨I', J', H, f1, f2, f3⟩ := c_over0 X hc hf hu hn he20 hu20 har hN hnN hac hr
  exact ⟨I', J', H, f1, f2.1, f3⟩
end ZOV
