/-! THE STATE of both sides: keys, row, told, cost, acts done and undone, gaps, points, boxes -/
abbrev zS : Type := zKL × List Int32 × zTT × Int32 × zKL × zKL × (Nat → Int32) × List (Nat × Nat) × List zBX
abbrev zsK (s : zS) : zKL := s.1
abbrev zsR (s : zS) : List Int32 := s.2.1
abbrev zsT (s : zS) : zTT := s.2.2.1
abbrev zsC (s : zS) : Int32 := s.2.2.2.1
abbrev zsA (s : zS) : zKL := s.2.2.2.2.1
abbrev zsU (s : zS) : zKL := s.2.2.2.2.2.1
abbrev zsG (s : zS) : Nat → Int32 := s.2.2.2.2.2.2.1
abbrev zsP (s : zS) : List (Nat × Nat) := s.2.2.2.2.2.2.2.1
abbrev zsB (s : zS) : List zBX := s.2.2.2.2.2.2.2.2
def zCS (I : zI) (o : Nat) (s : zS) : Prop := zKeys I (2 + o) (zsK s) ∧ I (1 + o) 2 = Int32.ofNat (zsR s).length ∧ zrow (I (5 + o)) (zsR s) ∧ (∀ j, j < 8 → I (6 + o) j = zsT s j) ∧ I (1 + o) 4 = zsC s ∧ zCA I o (zsA s) (zsU s) ∧ zCG I o (zsG s) ∧ zCP I o (zsP s) (zsB s)
def zMS (f : Nat → Int32) (s : zS) : Prop := zMK f (zsK s) (zsR s) ∧ (∀ j, j < 8 → f j = zsT s j) ∧ f 10 = zsC s ∧ zMA f (zsA s) (zsU s) ∧ zMG f (zsG s) ∧ zMP f (zsP s) (zsB s)
def zlo : List Int := [0, 0, 0, 1, 2, 8, 1, 0]
def zhi : List Int := [20, 20, 50, 99, 99, 512, 4, 99999]
def zTok (T : zTT) : Prop := ∀ j, j < 8 → zlo.getD j 0 ≤ (T j).toInt ∧ (T j).toInt ≤ zhi.getD j 0
/-- one act leads from keys to keys -/
def zSp (K : zKL) (q : Int32 × Int32) (K' : zKL) : Prop := zKV K ∧ zKV K' ∧ (q.2 = 1 ∨ q.2 = -1) ∧ K' = zset q.1 (zcnt q.1 K + q.2) K ∧ K = zset q.1 (zcnt q.1 K' - q.2) K' ∧ (zcnt q.1 K = 0 → q.2 = 1) ∧ zcnt q.1 K' = zcnt q.1 K + q.2
def zPth : zKL → zKL → zKL → Prop
  | K, [], K' => K = K'
  | K, q :: L, K' => ∃ K1, zSp K q K1 ∧ zPth K1 L K'
def zOK (s : zS) : Prop := zKV (zsK s) ∧ zRv (zsR s) ∧ (∀ r ∈ zsR s, -999999999 ≤ r.toInt ∧ r.toInt ≤ 999999999) ∧ zTok (zsT s) ∧ (∃ K0, zPth K0 (zsA s) (zsK s)) ∧ (∃ K1, zPth (zsK s) (zsU s) K1) ∧ (zsA s).length + (zsU s).length ≤ 20 ∧ zgs (zsG s) ∧ zPok (zsP s) (zsB s)
/-- all that lasts: the state, its image, the tape and the fault -/
abbrev zST : Type := zS × Option zS × (Nat → Nat) × Nat × Int32 × Int32
def zEe (s : zS) : Nat := (zsT s 0).toInt.toNat
def zEu (s : zS) : Nat := (zsT s 1).toInt.toNat
def zCim (I : zI) (m : Option zS) : Prop := match m with
  | none => I 0 2 = 0
  | some s => I 0 2 = 1 ∧ zCS I 15 s
def zMim (I : zI) (m : Option zS) : Prop := match m with
  | none => I 181 3 = 0
  | some s => I 181 3 = 1 ∧ zMS (I 183) s
def zCI (t : zST) (I : zI) (J : zJ) : Prop := zCS I 0 t.1 ∧ (∃ H, H ≤ 9 ∧ zCov I J 40 (zrf' (zsR t.1)) (zsR t.1).length (zEe t.1) (zEu t.1) H) ∧ zCim I t.2.1 ∧ zTO I t.2.2.1 t.2.2.2.1 ∧ I 31 4 = t.2.2.2.2.1 ∧ I 31 5 = t.2.2.2.2.2
def zMI (t : zST) (I : zI) : Prop := zMS (I 182) t.1 ∧ zMim I t.2.1 ∧ zTMr I t.2.2.1 t.2.2.2.1 ∧ I 181 14 = t.2.2.2.2.1 ∧ I 181 15 = t.2.2.2.2.2
def zOKt (t : zST) : Prop := zOK t.1 ∧ ∀ s, t.2.1 = some s → zOK s
def zInv (t : zST) (I : zI) (J : zJ) : Prop := zOKt t ∧ zCI t I J ∧ zMI t I
theorem zCS_fr {I I' : zI} {o : Nat} {s : zS} (h : ∀ a, 1 + o ≤ a → a ≤ 15 + o → I' a = I a) (hs : zCS I o s) : zCS I' o s := by
  obtain ⟨h1, h2, h3, h4, h5, h6, h7, h8⟩ := hs
  refine ⟨?_, by rw [h (1 + o) (by omega) (by omega)]; exact h2, by rw [h (5 + o) (by omega) (by omega)]; exact h3, by rw [h (6 + o) (by omega) (by omega)]; exact h4, by rw [h (1 + o) (by omega) (by omega)]; exact h5, ?_, ?_, ?_⟩
  · unfold zKeys at *
    rw [h (2 + o) (by omega) (by omega), h (2 + o + 1) (by omega) (by omega), h (2 + o + 2) (by omega) (by omega)]
    exact h1
  · unfold zCA at *
    rw [h (7 + o) (by omega) (by omega), h (8 + o) (by omega) (by omega), h (9 + o) (by omega) (by omega)]
    exact h6
  · unfold zCG at *
    rw [h (11 + o) (by omega) (by omega)]
    exact h7
  · unfold zCP at *
    rw [h (12 + o) (by omega) (by omega), h (13 + o) (by omega) (by omega), h (14 + o) (by omega) (by omega), h (15 + o) (by omega) (by omega)]
    exact h8
theorem zCI_fr {t : zST} {I I' : zI} {J J' : zJ} (h : ∀ a, (a ≤ 32 ∨ (41 ≤ a ∧ a ≤ 108)) → I' a = I a ∧ J' a = J a) (h40 : ∀ j, j ≠ 3 → I' 40 j = I 40 j) (hc : zCI t I J) : zCI t I' J' := by
  obtain ⟨h1, ⟨H, hH, h2⟩, h3, h4, h5, h6⟩ := hc
  refine ⟨zCS_fr (fun a a1 a2 => (h a (by omega)).1) h1, ⟨H, hH, ?_⟩, ?_, zTO_fr h4 (by rw [(h 31 (by omega)).1]) (h 32 (by omega)).1, by rw [(h 31 (by omega)).1]; exact h5, by rw [(h 31 (by omega)).1]; exact h6⟩
  · obtain ⟨c1, c2, c3, c4⟩ := h2
    exact ⟨by rw [h40 2 (by decide)]; exact c1, c2, zLv_frame c3 (fun a a1 a2 => h a (by omega)), fun l hl => zLv_frame (c4 l hl) (fun a a1 a2 => h a (by omega))⟩
  · cases hm : t.2.1 with
    | none =>
      rw [hm] at h3
      show I' 0 2 = 0
      rw [(h 0 (by omega)).1]; exact h3
    | some s =>
      rw [hm] at h3
      exact ⟨by rw [(h 0 (by omega)).1]; exact h3.1, zCS_fr (fun a a1 a2 => (h a (by omega)).1) h3.2⟩
