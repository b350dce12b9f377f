/-! THE LAW ASKS OF MANY DAYS (298): all of it -/
section YDL
variable {X : yy_X} {own : yOwn} {w t L : Nat} {xs : Nat → Int32} {lst : List (yBell × List fl_T)} {g0 g : aa_G} {h : zz_H} {day fr : Int}
theorem yl_long (F : yCf own w lst g0) (ht : (t : Int) < (g0 541 0).toInt) (hd : 0 ≤ day ∧ day ≤ 35999) (hX : X.1 = some (L, xs)) (hL : L ≤ 100000) (hfr : 0 ≤ fr ∧ fr ≤ 900000) (C : yCx own w lst g0 h g) (hB : h.1.1 + 20000 < yy_B) : yy_fin X 298 (0, zz_in [.ref 1, .ref w, .ref 0, .int (Int32.ofInt fr), .int (Int32.ofInt (t : Int)), .int (Int32.ofInt day)] (zz_nl 298), [], h) (fun r h' => r = some (.int (Int32.ofInt 1)) ∧ ∃ g', yCx own w lst g0 h' g' ∧ yx (yAk w) 14860 48730 h h') := by
  obtain ⟨own2, F2, C2, M, back⟩ := C.mo F
  refine yl_la F2 ht hd hX hL hfr M C2 (by omega) fun h1 b10 b11 b16 m hr nx hm hhr hnx C1 Y1 hb1 hb2 O10 O11 O16 => ?_
  have ed : ((day.toNat : Nat) : Int) = day := by omega
  have c1 := Y1.1
  have h9 := fun kk => yl_le (fr := fr) (X := X) (h0 := h) F2 ht hd M hm hhr hnx (A := 8003) (E := 35015) (b10 := b10) (b11 := b11) (b16 := b16) (WK := sm_i (ww_d (g0 541) t hr nx) day.toNat m.toNat) (P0 := (fd_i (bs_f (g0 541) t hr 0) day.toNat m.toNat (-2, 0)).1) (P1 := (fd_i (bs_f (g0 541) t hr 1) day.toNat m.toNat (-2, 0)).1) (P2 := (fd_i (bs_f (g0 541) t hr 2) day.toNat m.toNat (-2, 0)).1) (U0 := (fd_i (bs_f (g0 541) t hr 0) day.toNat m.toNat (-2, 0)).2) (U1 := (fd_i (bs_f (g0 541) t hr 1) day.toNat m.toNat (-2, 0)).2) (U2 := (fd_i (bs_f (g0 541) t hr 2) day.toNat m.toNat (-2, 0)).2) (GS := (fd_i (gr_f (g0 541) t) day.toNat m.toNat (0, -1000000, -2)).1) (GT := (fd_i (gr_f (g0 541) t) day.toNat m.toNat (0, -1000000, -2)).2.1) (GO := (fd_i (gr_f (g0 541) t) day.toNat m.toNat (0, -1000000, -2)).2.2) (TT := fd_i (tt_f (g0 541) t lst) day.toNat m.toNat 0) (ZZ := fun q => fd_i (bz_f (g0 541) t lst q) day.toNat m.toNat 0) (φ := (fun r h' => r = some (.int (Int32.ofInt 1)) ∧ ∃ g', yCx own w lst g0 h' g' ∧ yx (yAk w) 14860 48730 h h')) ⟨hb1, hb2⟩ (by omega) kk m.toNat day.toNat h1 0 (-2) (-2) (-2) 0 0 0 0 (-1000000) (-2) 0 (fun _ => 0) none none none none none 3 15 (by omega) (by omega) (Int.zero_add _) rfl rfl rfl rfl rfl (fun _ => rfl) (by omega) (by omega) (by omega) (by omega) (by omega) (by omega) (by omega) C1 Y1 O10 O11 O16 (by omega) (by omega)
  rw [ed] at h9
  refine h9 fun h2 d' x18 x19 x20 x21 x22 C3 Y3 O10 O11 O16 => ?_
  have c3 := Y3.1
  refine yl_lf (h0 := h) (l11 := []) F2 ht hd M hm hhr hnx rfl rfl rfl rfl rfl rfl (fun _ => rfl) C3 Y3 O10 O16 fun h3 g3 B x19 C4 Y4 => ?_
  refine yl_lh F2 ht hd hX hL hfr C4 Y4 (by omega) fun h4 g4 x19 x20 x21 i22 x23 x24 C5 Y5 => ?_
  refine yl_sa (h0 := h) F2 ht hd M C5 Y5 (by omega) fun h5 g5 k23 x24 x25 C6 Y6 => ?_
  refine yl_lt F2 ht C6 Y6 (by omega) fun h6 x25 x26 x27 C7 Y7 => ?_
  refine yl_lz F2 ht C7 Y7 fun h7 g7 C8 Y8 => ⟨rfl, g7, back _ _ C8, Y8.le (by omega) (by omega)⟩
end YDL
