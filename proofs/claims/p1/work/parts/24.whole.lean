/-! THE LAW ON EVERY SCRIPT OF AT MOST SIX INTS -/
theorem zz_eqv_of {h h' : zz_H} (e1 : h.1 = h'.1) (e2 : ∀ k, k < h.1.1 → h.2.1 (k + 1) = h'.2.1 (k + 1)) (e3 : h.2.2 = h'.2.2) : zz_eqv h h' := ⟨e1, fun k hk => ⟨e2 k hk, by rw [e3]; split <;> first | trivial | (intros; rfl)⟩⟩
theorem law_loop {L : Nat} (xs : Nat → Int32) (hL : L ≤ 6) : zz_fin (some (L, xs)) 0 (18, law_lv, [], zz_hs) law_phi := by
  by_cases h6 : L = 6
  · subst h6
    refine zz_fin.steps (n := 11) (s' := (33, law_lv, [.int (xs 0 &&& 63)], zz_hs)) rfl ?_
    refine zz_fin.step1 rfl rfl ?_
    refine zz_sw_all (P := fun t => zz_fin (some (6, xs)) 0 (t, law_lv, [], zz_hs) law_phi) _ _ _ ?_ (law_end xs rfl)
    exact List.forall_mem_cons.mpr ⟨law_c0 xs, List.forall_mem_cons.mpr ⟨law_c1 xs, List.forall_mem_cons.mpr ⟨law_c2 xs, List.forall_mem_cons.mpr ⟨law_c3 xs, List.forall_mem_cons.mpr ⟨law_c4 xs, List.forall_mem_cons.mpr ⟨law_c5 xs, List.forall_mem_cons.mpr ⟨law_c6 xs, List.forall_mem_cons.mpr ⟨law_c7 xs, List.forall_mem_cons.mpr ⟨law_c8 xs, List.forall_mem_cons.mpr ⟨law_c9 xs, List.forall_mem_cons.mpr ⟨law_c10 xs, List.forall_mem_cons.mpr ⟨law_c11 xs, List.forall_mem_cons.mpr ⟨law_c12 xs, List.forall_mem_cons.mpr ⟨law_c13 xs, List.forall_mem_cons.mpr ⟨law_c14 xs, List.forall_mem_cons.mpr ⟨law_c15 xs, List.forall_mem_cons.mpr ⟨law_c16 xs, List.forall_mem_cons.mpr ⟨law_c17 xs, List.forall_mem_cons.mpr ⟨law_c18 xs, List.forall_mem_cons.mpr ⟨law_c19 xs, List.forall_mem_cons.mpr ⟨law_c20 xs, List.forall_mem_cons.mpr ⟨law_c21 xs, List.forall_mem_cons.mpr ⟨law_c22 xs, List.forall_mem_cons.mpr ⟨law_c23 xs, List.forall_mem_cons.mpr ⟨law_c24 xs, List.forall_mem_cons.mpr ⟨law_c25 xs, List.forall_mem_cons.mpr ⟨law_c26 xs, List.forall_mem_cons.mpr ⟨law_c27 xs, List.forall_mem_cons.mpr ⟨law_c28 xs, List.forall_mem_cons.mpr ⟨law_c29 xs, List.forall_mem_cons.mpr ⟨law_c30 xs, List.forall_mem_cons.mpr ⟨law_c31 xs, List.forall_mem_cons.mpr ⟨law_c32 xs, List.forall_mem_cons.mpr ⟨law_c33 xs, List.forall_mem_cons.mpr ⟨law_c34 xs, List.forall_mem_cons.mpr ⟨law_c35 xs, List.forall_mem_cons.mpr ⟨law_c36 xs, List.forall_mem_cons.mpr ⟨law_c37 xs, List.forall_mem_cons.mpr ⟨law_c38 xs, List.forall_mem_cons.mpr ⟨law_c39 xs, List.forall_mem_cons.mpr ⟨law_c40 xs, List.forall_mem_cons.mpr ⟨law_c41 xs, List.forall_mem_cons.mpr ⟨law_c42 xs, List.forall_mem_cons.mpr ⟨law_c43 xs, List.forall_mem_cons.mpr ⟨law_c44 xs, List.forall_mem_cons.mpr ⟨law_c45 xs, List.forall_mem_cons.mpr ⟨law_c46 xs, List.forall_mem_cons.mpr ⟨law_c47 xs, List.forall_mem_cons.mpr ⟨law_c48 xs, List.forall_mem_cons.mpr ⟨law_c49 xs, List.forall_mem_cons.mpr ⟨law_c50 xs, fun _ h => absurd h List.not_mem_nil⟩⟩⟩⟩⟩⟩⟩⟩⟩⟩⟩⟩⟩⟩⟩⟩⟩⟩⟩⟩⟩⟩⟩⟩⟩⟩⟩⟩⟩⟩⟩⟩⟩⟩⟩⟩⟩⟩⟩⟩⟩⟩⟩⟩⟩⟩⟩⟩⟩⟩⟩
  · have h7 : L = 0 ∨ L = 1 ∨ L = 2 ∨ L = 3 ∨ L = 4 ∨ L = 5 := by omega
    rcases h7 with rfl | rfl | rfl | rfl | rfl | rfl
    all_goals
      refine zz_fin.steps (n := 7) (s' := (2342, law_lv, [.int 1], zz_hs)) rfl ?_
      exact zz_fin.at (n := 1) rfl ⟨rfl, Nat.le_of_ble_eq_true rfl, Nat.le_of_ble_eq_true rfl⟩
theorem whole_start {p : Program} {e : Env} {s : State} {m : MethodId} {below : List Frame} {meth : Method} {c : Code} (l : Launch) (hflags : l.flags = flags0) {b L : Nat} {xs : Nat → Int32} (hL : L ≤ 6) (C0 : lw_At p s m meth c b L xs) : W p l e room_1 s m #[Value.ref b] below meth c s.heap [] 0 0 (lw_Z below #[Value.ref b] s) (entryFrame m ([Value.ref b] : List Value).toArray 4) := by
  obtain ⟨hx, hb, hr, hml, hown, hts, hX, hbl, hlocks, hgv⟩ := C0
  obtain ⟨D, cA, hK⟩ := zz_known hts
  have C : zz_C p room_1 s m #[Value.ref b] meth c D cA s.heap.size b 0 (some (L, xs)) 0 := ⟨hx, hb, hml, hown, fun w hw => hts w (List.mem_filter.mp hw).1, hK, rfl, hbl, hX, fun e => absurd e (by decide), Nat.le_of_ble_eq_true rfl, Nat.le_of_ble_eq_true rfl, zz_E_of hts⟩
  have hm0 : 0 < zz_nm := by decide
  have sim := fun n => zz_sim l D cA s.heap.size b (some (L, xs)) n
  have gA : zz_G p l e room_1 s m #[Value.ref b] below meth c D cA s.heap.size b 0 0 0 (lw_Z below #[Value.ref b] s) (18, law_lv, [], zz_hs) := zz_law_fin hr hlocks zz_hs_Zr C (law_loop xs hL)
  obtain ⟨q1, q2, h1, h2, e1, k1, e2, k2, hly, hg⟩ := zz_ctor
  obtain ⟨⟨a1, a2⟩, ly1, g1⟩ := h1
  cases k1
  have hZ0 : zz_Zr zz_ha := fun k _ => rfl
  have hZ1 : zz_Zr ((539, 7547), (ly1, g1)) := zz_walk_zero _ _ _ _ hZ0 e1
  have hZ1m : zz_Zr (zz_hm ((539, 7547), (ly1, g1))) := fun k hk => hZ1 k (Nat.lt_of_succ_lt hk)
  have hZ2 : zz_Zr h2 := zz_walk_zero _ _ _ _ hZ1m e2
  have gB : zz_G p l e room_1 s m #[Value.ref b] below meth c D cA s.heap.size b 0 0 0 (lw_Z below #[Value.ref b] s) (18, law_lv, [], h2) := fun H locs ls hW hS hl => by
    have q : zz_eqv h2 zz_hs := zz_eqv_of k2 hly hg
    have k := gA H locs ls (q.Wd hW) hS hl
    show W p l e room_1 s m #[Value.ref b] below meth c H locs (h2.1.1 - 0) (h2.1.2 - 0) _ _
    rw [k2]
    exact k
  have hb2 : h2.1.1 - 0 ≤ 600000 ∧ h2.1.2 - 0 ≤ 7302250 := by rw [k2]; exact ⟨Nat.le_of_ble_eq_true rfl, Nat.le_of_ble_eq_true rfl⟩
  have gC : zz_G p l e room_1 s m #[Value.ref b] below meth c D cA s.heap.size b 0 0 0 (lw_Z below #[Value.ref b] s) (15, [some (.ref 0), some (.ref 1), none, none], [.ref 540], h2) :=
    sim 3 p e room_1 s m _ below meth c _ 0 0 0 _ (.inl (18, law_lv, [], h2)) hm0 rfl C hZ2 (Nat.zero_le _) (Nat.zero_le _) hb2.1 hb2.2 gB
  have gD : zz_G p l e room_1 s m #[Value.ref b] below meth c D cA s.heap.size b 0 0 0 (lw_Z below #[Value.ref b] s) (12, [some (.ref 0), some (.ref 1), none, none], [.ref 540, .ref 540], zz_hm ((539, 7547), (ly1, g1))) :=
    z1_call (sim 89) hm0 C (zz_ok hm0 rfl) hZ1m (Nat.zero_le _) (Nat.zero_le _) hb2.1 hb2.2 rfl (Nat.le_of_ble_eq_true rfl) (zz_walk_X _ _ _ _ e2) gC
  have gE : zz_G p l e room_1 s m #[Value.ref b] below meth c D cA s.heap.size b 0 0 0 (lw_Z below #[Value.ref b] s) (7, [some (.ref 0), none, none, none], [.ref 1], ((539, 7547), (ly1, g1))) :=
    sim 3 p e room_1 s m _ below meth c _ 0 0 0 _ (.inl (12, [some (.ref 0), some (.ref 1), none, none], [.ref 540, .ref 540], zz_hm ((539, 7547), (ly1, g1)))) hm0 rfl C hZ1 (Nat.zero_le _) (Nat.zero_le _) (Nat.le_of_ble_eq_true rfl) (Nat.le_of_ble_eq_true rfl) gD
  have gF : zz_G p l e room_1 s m #[Value.ref b] below meth c D cA s.heap.size b 0 0 0 (lw_Z below #[Value.ref b] s) (4, [some (.ref 0), none, none, none], [.ref 1, .ref 1], zz_ha) :=
    z1_call (sim 265) hm0 C (zz_ok hm0 rfl) hZ0 (Nat.zero_le _) (Nat.zero_le _) (Nat.le_of_ble_eq_true rfl) (Nat.le_of_ble_eq_true rfl) rfl (Nat.le_of_ble_eq_true rfl) (zz_walk_X _ _ _ _ e1) gE
  have gG : zz_G p l e room_1 s m #[Value.ref b] below meth c D cA s.heap.size b 0 0 0 (lw_Z below #[Value.ref b] s) (0, zz_in [.ref 0] 4, [], zz_h0) :=
    sim 2 p e room_1 s m _ below meth c _ 0 0 0 _ (.inl (4, [some (.ref 0), none, none, none], [.ref 1, .ref 1], zz_ha)) hm0 rfl C (fun k _ => rfl) (Nat.zero_le _) (Nat.zero_le _) (Nat.le_of_ble_eq_true rfl) (Nat.le_of_ble_eq_true rfl) gF
  rw [lg_entry_eq]
  exact gG s.heap [] _ (fun k q hq => by
    have := (zz_ws_inv hq).1
    exact absurd this (Nat.not_lt_zero _)) va_S.rf (zz_entry (as := [.ref 0]) (n := 4) (Nat.le_of_ble_eq_true rfl))
