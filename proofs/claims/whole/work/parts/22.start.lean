set_option maxHeartbeats 4000000 in
/-- THE LAW, from its entry, out of the pure run -/
theorem zstart {p : Program} {e : Env} {s : State} {m : MethodId} {below : List Frame} {meth : Method} {c : Code} (l : Launch) {b L : Nat} {xs : Nat → Int32} (hblk : ∀ m, m < 210 → ∀ lb b, zv_blk m lb = some b → zchkb m (lb, b) = true) (hmna : zMNA) (hL : L ≤ 3072) (C0 : lw_At p s m meth c b L xs) (hp : zPure (L, xs)) : W p l e room_1 s m #[Value.ref b] below meth c s.heap [] 0 0 (lw_Z below #[Value.ref b] s) (entryFrame m ([Value.ref b] : List Value).toArray 4) := by
  obtain ⟨hx, hb, hr, hml, hown, hts, hX, hbl, hlocks, hgv⟩ := id C0
  obtain ⟨ov, e0, hov, hG⟩ := zst_G hL hts hX hbl hgv
  obtain ⟨cA, hcA⟩ := zst_A hts
  obtain ⟨D, hD⟩ := zst_D hts
  obtain ⟨μe, hrun, hlen, hsl⟩ := hp
  obtain ⟨n, hn⟩ := zR_to hrun
  have C : zCx (L, xs) s.heap.size ov cA D 0 0 (some (.int 1), μe) 209 p room_1 s m #[Value.ref b] meth c := ⟨hx, hb, hml, hown, fun w hw => hts w (List.mem_filter.mp hw).1, hr, hlocks, fun h9 => absurd h9 (by decide +kernel), by decide +kernel, by decide +kernel, ⟨hD, hcA⟩, hG, rfl, by show μe.1.length ≤ 0 + 600000; omega, by show zsl μe.1 ≤ 0 + 7302250; omega, hov⟩
  have hR : zRet s.heap.size ov cA D 0 0 (some (.int 1), μe) 209 p l e room_1 s m #[Value.ref b] below meth c (lw_Z below #[Value.ref b] s) := by
    intro pc H locs rl hP hS _ _ hd
    refine va_forget (fun q hq => hS.2.2 q hq) ?_
    refine W.widen (k := 600000) (n := 7302250) (by show μe.1.length - 0 ≤ _; omega) (by show zsl μe.1 - 0 ≤ _; omega) ?_
    exact lw_ret hx hb hr hlocks hd.1
  have g := zmain hov hblk hmna n (by decide) C hR 0 _ _ _ hn
  rw [lg_entry_eq]
  have hl := lv_entry ([.ref b]) (n := 4) (Nat.le_of_ble_eq_true rfl)
  refine g.2 s.heap [] _ (Nat.le_refl _) (Nat.le_refl _) (fun k q h9 => by simp [zws, zμ0] at h9) va_S.rf (zal_sub hl (fun j v hv => ?_)) rfl
  match j, hv with
  | 0, hv =>
    cases hv
    show (0, ov 0) ∈ _
    rw [e0]
    exact List.mem_cons_self
  | 1, hv => cases hv
  | 2, hv => cases hv
  | 3, hv => cases hv
  | j + 4, hv => simp at hv
