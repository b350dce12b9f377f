/-! THE LAW ON EVERY SCRIPT, FROM THE MACHINE'S START -/
abbrev law_lv : zz_V := [some (.ref 0), some (.ref 1), some (.ref 540), some (.int 0)]
def lw_P2 (b : Addr) (xs : List Int32) (args : Array Value) (s : State) : Prop := args = #[.ref b] ∧ s.IntsAt b xs ∧ xs.length ≤ 3072 ∧ (Jvm.Cond.and given_1 narrow_1).before args s = true
theorem lw_g0_eqv (xs : Nat → Int32) {h : zz_H} (e1 : h.1 = zz_hs.1) (e2 : ∀ k, k < h.1.1 → h.2.1 (k + 1) = zz_ly (k + 1)) (e3 : h.2.2 = zz_g0) : zz_eqv h (aa_H (lw_g0 xs)) := by
  refine ⟨e1, fun k hk => ⟨e2 k hk, ?_⟩⟩
  show (match zz_ly (k + 1) with
    | .inl (_, n) => ∀ j, j < n → h.2.2 (k + 1) j = lw_g0 xs (k + 1) j
    | .inr (.inl _) => True
    | .inr (.inr (_, fs)) => ∀ j, j < fs.length → fs[j]? = some none → h.2.2 (k + 1) j = lw_g0 xs (k + 1) j)
  rw [e3]
  by_cases hk6 : k + 1 = 546
  · rw [hk6]
    show ∀ j, j < 24 → zz_g0 546 j = lw_g0 xs 546 j
    intro j hj
    rw [lw_g0_lt xs (by omega)]
  · split
    · intro j _
      rw [lw_g0_ne xs hk6]
    · trivial
    · intro j _ _
      rw [lw_g0_ne xs hk6]
theorem whole_start {p : Program} {e : Env} {s : State} {m : MethodId} {below : List Frame} {meth : Method} {c : Code} (l : Launch) (hflags : l.flags = flags0) {b L : Nat} {xs : Nat → Int32} (hL : L ≤ 3072) (C0 : lw_At p s m meth c b L xs) : W p l e room_1 s m #[Value.ref b] below meth c s.heap [] 0 0 (lw_Z below #[Value.ref b] s) (entryFrame m ([Value.ref b] : List Value).toArray 4) := by
  obtain ⟨hx, hb, hr, hml, hown, hts, hX, hbl, hlocks, hgv⟩ := C0
  obtain ⟨D, cA, hK⟩ := zz_known hts
  have C : zz_C p room_1 s m #[Value.ref b] meth c D cA s.heap.size b 0 (some (L, xs)) 0 := ⟨hx, hb, hml, hown, fun w hw => hts w (List.mem_filter.mp hw).1, hK, rfl, hbl, hX, fun e => absurd e (by decide), Nat.le_of_ble_eq_true rfl, Nat.le_of_ble_eq_true rfl, zz_E_of hts⟩
  have hm0 : 0 < zz_nm := by decide
  have sim := fun n => zz_sim l D cA s.heap.size b (some (L, xs)) n
  have gA : zz_G p l e room_1 s m #[Value.ref b] below meth c D cA s.heap.size b 0 0 0 (lw_Z below #[Value.ref b] s) (18, law_lv, [], aa_H (lw_g0 xs)) := zz_law_fin hr hlocks (lw_g0_Zr xs) C (lw_loop xs hL)
  obtain ⟨q1, q2, h1, h2, e1, k1, e2, k2, hly, hg⟩ := zz_ctor
  obtain ⟨⟨a1, a2⟩, ly1, g1⟩ := h1
  cases k1
  have hZ0 : zz_Zr zz_ha := fun k _ => rfl
  have hZ1 : zz_Zr ((539, 7547), (ly1, g1)) := zz_walk_zero _ _ _ _ hZ0 e1
  have hZ1m : zz_Zr (zz_hm ((539, 7547), (ly1, g1))) := fun k hk => hZ1 k (Nat.lt_of_succ_lt hk)
  have hZ2 : zz_Zr h2 := zz_walk_zero _ _ _ _ hZ1m e2
  have gB : zz_G p l e room_1 s m #[Value.ref b] below meth c D cA s.heap.size b 0 0 0 (lw_Z below #[Value.ref b] s) (18, law_lv, [], h2) := fun H locs ls hW hS hl => by
    have q : zz_eqv h2 (aa_H (lw_g0 xs)) := lw_g0_eqv xs k2 hly hg
    have k := gA H locs ls (q.Wd hW) hS hl
    show W p l e room_1 s m #[Value.ref b] below meth c H locs (h2.1.1 - 0) (h2.1.2 - 0) _ _
    rw [k2]
    exact k
  have hb2 : h2.1.1 - 0 ≤ 600000 ∧ h2.1.2 - 0 ≤ 7302250 := by rw [k2]; exact ⟨Nat.le_of_ble_eq_true rfl, Nat.le_of_ble_eq_true rfl⟩
  have gC : zz_G p l e room_1 s m #[Value.ref b] below meth c D cA s.heap.size b 0 0 0 (lw_Z below #[Value.ref b] s) (15, [some (.ref 0), some (.ref 1), none, none], [.ref 540], h2) :=
    sim 3 p e room_1 s m _ below meth c _ 0 0 0 _ (.inl (18, law_lv, [], h2)) hm0 rfl C hZ2 (Nat.zero_le _) (Nat.zero_le _) hb2.1 hb2.2 gB
  have gD : zz_G p l e room_1 s m #[Value.ref b] below meth c D cA s.heap.size b 0 0 0 (lw_Z below #[Value.ref b] s) (12, [some (.ref 0), some (.ref 1), none, none], [.ref 540, .ref 540], zz_hm ((539, 7547), (ly1, g1))) :=
    z1_call (sim 89) hm0 C (zz_ok hm0 rfl) hZ1m (Nat.zero_le _) (Nat.zero_le _) hb2.1 hb2.2 rfl (Nat.le_of_ble_eq_true rfl) (zz_walk_X _ _ _ _ e2) gC
  have gE : zz_G p l e room_1 s m #[Value.ref b] below meth c D cA s.heap.size b 0 0 0 (lw_Z below #[Value.ref b] s) (7, [some (.ref 0), none, none, none], [.ref 1], ((539, 7547), (ly1, g1))) :=
    sim 3 p e room_1 s m _ below meth c _ 0 0 0 _ (.inl (12, [some (.ref 0), some (.ref 1), none, none], [.ref 540, .ref 540], zz_hm ((539, 7547), (ly1, g1)))) hm0 rfl C hZ1 (Nat.zero_le _) (Nat.zero_le _) (Nat.le_of_ble_eq_true rfl) (Nat.le_of_ble_eq_true rfl) gD
  have gF : zz_G p l e room_1 s m #[Value.ref b] below meth c D cA s.heap.size b 0 0 0 (lw_Z below #[Value.ref b] s) (4, [some (.ref 0), none, none, none], [.ref 1, .ref 1], zz_ha) :=
    z1_call (sim 265) hm0 C (zz_ok hm0 rfl) hZ0 (Nat.zero_le _) (Nat.zero_le _) (Nat.le_of_ble_eq_true rfl) (Nat.le_of_ble_eq_true rfl) rfl (Nat.le_of_ble_eq_true rfl) (zz_walk_X _ _ _ _ e1) gE
  have gG : zz_G p l e room_1 s m #[Value.ref b] below meth c D cA s.heap.size b 0 0 0 (lw_Z below #[Value.ref b] s) (0, zz_in [.ref 0] 4, [], zz_h0) :=
    sim 2 p e room_1 s m _ below meth c _ 0 0 0 _ (.inl (4, [some (.ref 0), none, none, none], [.ref 1, .ref 1], zz_ha)) hm0 rfl C (fun k _ => rfl) (Nat.zero_le _) (Nat.zero_le _) (Nat.le_of_ble_eq_true rfl) (Nat.le_of_ble_eq_true rfl) gF
  rw [lg_entry_eq]
  exact gG s.heap [] _ (fun k q hq => by
    have := (zz_ws_inv hq).1
    exact absurd this (Nat.not_lt_zero _)) va_S.rf (zz_entry (as := [.ref 0]) (n := 4) (Nat.le_of_ble_eq_true rfl))
