/-! THE LAW ASKS OF TWO TOWNS (300): what it asks last, all of it (printed by wip/p54/w23.py) -/
section YD23
variable {X : yy_X} {own : yOwn} {w t t2 L : Nat} {xs : Nat → Int32} {lst : List (yBell × List fl_T)} {g0 g : aa_G} {h h0 : zz_H} {day fr : Int} {φ : Option Value → zz_H → Prop}
theorem qm_138 (F : yCf own w lst g0) (C : yCx own w lst g0 h g) (hd : 0 ≤ day ∧ day ≤ 35999) : ∃ g', ∀ {X : yy_X}, yy_fin X 138 (0, zz_in [.ref 1, .int (Int32.ofInt 16), .int (Int32.ofInt day)] (zz_nl 138), [], h) (fun v h' => v = some (.int (Int32.ofInt (-1))) ∧ yCx own w lst g0 h' g' ∧ yx (yAk w) 0 0 h h') := by
  obtain ⟨x, g', ⟨Y, W, eY, e⟩, r⟩ := yq_138 F C (Int32.ofInt 16) (Int32.ofInt day)
  have e2 : x = Int32.ofInt (-1) := by
    rw [e]
    unfold fn_248
    rw [if_pos ((gd_239z W).mpr fun h => absurd h.1 (by decide))]
    rfl
  subst e2
  exact ⟨g', r⟩
theorem qm_132 (F : yCf own w lst g0) (C : yCx own w lst g0 h g) (ht : (t : Int) < (g0 541 0).toInt) (ht2 : (t2 : Int) < (g0 541 0).toInt) : ∃ g', ∀ {X : yy_X}, yy_fin X 132 (0, zz_in [.ref 1, .int (Int32.ofInt (4 * (t : Int) + t2)), .int (Int32.ofInt 24), .int (Int32.ofInt 0), .int (Int32.ofInt day), .int (Int32.ofInt 0)] (zz_nl 132), [], h) (fun v h' => v = some (.int (Int32.ofInt (-1000000))) ∧ yCx own w lst g0 h' g' ∧ yx (yAk w) 0 0 h h') := by
  obtain ⟨x, g', ⟨Y, W, eY, e⟩, r⟩ := yq_132 F C (Int32.ofInt (4 * (t : Int) + t2)) (Int32.ofInt 24) (Int32.ofInt 0) (Int32.ofInt day) (Int32.ofInt 0)
  have e2 : x = Int32.ofInt (-1000000) := by
    rw [e]
    have n4 := W.1
    obtain ⟨k1, k2⟩ := y_key (t := t) (t2 := t2) (by rw [eY] at n4; omega) (by rw [eY] at n4; omega)
    have ht : (t : Int) < (Y 541 0).toInt := by rw [eY]; exact ht
    have ht2 : (t2 : Int) < (Y 541 0).toInt := by rw [eY]; exact ht2
    unfold fn_228
    rw [if_neg (show ¬ fn_154 (Int32.ofInt (4 * (t : Int) + t2)) 0 15 = 0 from y_154 (a := 4 * (t : Int) + t2) (lo := 0) (hi := 15) (by omega) (by omega) (by omega) (by omega)), k1, k2, if_neg (y_192 W ht), if_neg (y_192 W ht2), if_pos (show fn_154 (Int32.ofInt 24) 0 23 = 0 from ti_154z.mpr (by decide))]
    rfl
  subst e2
  exact ⟨g', r⟩
theorem qm_135 (F : yCf own w lst g0) (C : yCx own w lst g0 h g) (ht : (t : Int) < (g0 541 0).toInt) (ht2 : (t2 : Int) < (g0 541 0).toInt) : ∃ g', ∀ {X : yy_X}, yy_fin X 135 (0, zz_in [.ref 1, .int (Int32.ofInt (4 * (t : Int) + t2)), .int (Int32.ofInt 36000), .int (Int32.ofInt 0)] (zz_nl 135), [], h) (fun v h' => v = some (.int (Int32.ofInt (-1))) ∧ yCx own w lst g0 h' g' ∧ yx (yAk w) 0 0 h h') := by
  obtain ⟨x, g', ⟨Y, W, eY, e⟩, r⟩ := yq_135 F C (Int32.ofInt (4 * (t : Int) + t2)) (Int32.ofInt 36000) (Int32.ofInt 0)
  have e2 : x = Int32.ofInt (-1) := by
    rw [e]
    have n4 := W.1
    obtain ⟨k1, k2⟩ := y_key (t := t) (t2 := t2) (by rw [eY] at n4; omega) (by rw [eY] at n4; omega)
    have ht : (t : Int) < (Y 541 0).toInt := by rw [eY]; exact ht
    have ht2 : (t2 : Int) < (Y 541 0).toInt := by rw [eY]; exact ht2
    unfold fn_235
    rw [if_neg (show ¬ fn_154 (Int32.ofInt (4 * (t : Int) + t2)) 0 15 = 0 from y_154 (a := 4 * (t : Int) + t2) (lo := 0) (hi := 15) (by omega) (by omega) (by omega) (by omega)), k1, k2, if_neg (y_192 W ht), if_neg (y_192 W ht2), if_pos (show fn_193 (Int32.ofInt 36000) = 0 from ti_193z.mpr (by decide))]
    rfl
  subst e2
  exact ⟨g', r⟩
theorem qm_140 (F : yCf own w lst g0) (C : yCx own w lst g0 h g)  : ∃ g', ∀ {X : yy_X}, yy_fin X 140 (0, zz_in [.ref 1, .int (Int32.ofInt (-1)), .int (Int32.ofInt day), .int (Int32.ofInt 0), .int (Int32.ofInt 0)] (zz_nl 140), [], h) (fun v h' => v = some (.int (Int32.ofInt (-1000000))) ∧ yCx own w lst g0 h' g' ∧ yx (yAk w) 0 0 h h') := by
  obtain ⟨x, g', ⟨Y, W, eY, e⟩, r⟩ := yq_140 F C (Int32.ofInt (-1)) (Int32.ofInt day) (Int32.ofInt 0) (Int32.ofInt 0)
  have e2 : x = Int32.ofInt (-1000000) := by
    rw [e]
    unfold fn_251
    rw [if_pos ((gd_239z W).mpr fun h => absurd h.1 (by decide))]
    rfl
  subst e2
  exact ⟨g', r⟩
theorem ym_z (F : yCf own w lst g0) (ht : (t : Int) < (g0 541 0).toInt) (ht2 : (t2 : Int) < (g0 541 0).toInt) (hd : 0 ≤ day ∧ day ≤ 35999) {a e : Nat} {i15 : Int} {x8 x9 x10 x11 x12 x13 x14 x16 x17 x18 x19 : Option Value} (C : yCx own w lst g0 h g) (Y : yx (yAk w) a e h0 h) (hR : h0.1.1 + a + 9600 < yy_B) (kk : ∀ h' g', yCx own w lst g0 h' g' → yx (yAk w) (a + 4580) (e + 20340) h0 h' → φ (some (.int (Int32.ofInt 1))) h') : yy_fin X 300 (441, [some (.ref 1), some (.ref w), some (.ref 0), some (.int (Int32.ofInt fr)), some (.int (Int32.ofInt (t : Int))), some (.int (Int32.ofInt (t2 : Int))), some (.int (Int32.ofInt day)), some (.int (Int32.ofInt (4 * (t : Int) + (t2 : Int)))), x8, x9, x10, x11, x12, x13, x14, some (.int (Int32.ofInt i15)), x16, x17, x18, x19, none, none, none, none, none, none, none, none, none, none], [], h) φ := by
  have n4 := F.2.2.2.1
  have hq := F.2.2.2.2.1
  have hY := Y.1
  have hg := C.2.1.2
  have l8 := F.2.2.1.2.1
  have l16 := yRq_len (t := t) (d := day) F.2.2.1
  have hb := yRq_b (d := day) F.2.2.2 ht F.2.2.1
  refine yy_fin.steps (n := 11) (s' := (458, [some (.ref 1), some (.ref w), some (.ref 0), some (.int (Int32.ofInt fr)), some (.int (Int32.ofInt (t : Int))), some (.int (Int32.ofInt (t2 : Int))), some (.int (Int32.ofInt day)), some (.int (Int32.ofInt (4 * (t : Int) + (t2 : Int)))), x8, x9, x10, x11, x12, x13, x14, some (.int (Int32.ofInt i15)), some (.int (Int32.ofInt 0)), some (.int (Int32.ofInt 0)), some (.int (Int32.ofInt (-1))), some (.int (Int32.ofInt 0)), none, none, none, none, none, none, none, none, none, none], [.int (Int32.ofInt day), .int (Int32.ofInt (t : Int)), .ref w], h)) rfl ?_
  obtain ⟨fw101, oW101⟩ := C.ow
  refine yy_fin.cv (as := [.int (Int32.ofInt (t : Int)), .int (Int32.ofInt day)]) rfl rfl rfl oW101 (Nat.le_of_ble_eq_true rfl) (Nat.le_of_ble_eq_true rfl) (yc_rings2 F C ht (d := day) (by omega) (by omega)) ?_
  rintro v h101 ⟨C, x101, q101, rfl, H101⟩
  have hx101 := x101.1
  replace Y := Y.tr x101 (fun _ _ e => e)
  replace hY := Y.1
  refine yy_fin.steps (n := 2) (s' := (465, [some (.ref 1), some (.ref w), some (.ref 0), some (.int (Int32.ofInt fr)), some (.int (Int32.ofInt (t : Int))), some (.int (Int32.ofInt (t2 : Int))), some (.int (Int32.ofInt day)), some (.int (Int32.ofInt (4 * (t : Int) + (t2 : Int)))), x8, x9, x10, x11, x12, x13, x14, some (.int (Int32.ofInt i15)), some (.int (Int32.ofInt 0)), some (.int (Int32.ofInt 0)), some (.int (Int32.ofInt (-1))), some (.int (Int32.ofInt 0)), some (.ref q101), none, none, none, none, none, none, none, none, none], [.ref q101], h101)) rfl ?_
  obtain ⟨m20, rs20, R20, l20, a20⟩ := id H101
  refine yy_fin.lr rfl R20 (by decide) ?_
  rw [yi_n, l20]
  refine yy_fin.steps (n := 3) (s' := (471, [some (.ref 1), some (.ref w), some (.ref 0), some (.int (Int32.ofInt fr)), some (.int (Int32.ofInt (t : Int))), some (.int (Int32.ofInt (t2 : Int))), some (.int (Int32.ofInt day)), some (.int (Int32.ofInt (4 * (t : Int) + (t2 : Int)))), x8, x9, x10, x11, x12, x13, x14, some (.int (Int32.ofInt i15)), some (.int (Int32.ofInt 0)), some (.int (Int32.ofInt 0)), some (.int (Int32.ofInt (-1))), some (.int (Int32.ofInt 0)), some (.ref q101), some (.int (Int32.ofInt ((yRq (g0 541) t lst day).length : Int))), some (.int (Int32.ofInt 0)), none, none, none, none, none, none, none], [], h101)) rfl ?_
  refine ym_q F ht ht2 hd (A := a + 4580) (E := e + 20340) (n20 := h.1.1) (SM := (fd_i (sa_f (g0 541) t t2 lst day) 0 (yRq (g0 541) t lst day).length 0)) (Q := (fd_i (qt_f (yRq (g0 541) t lst day)) 0 ((yRq (g0 541) t lst day).length + 1) (0, -1)).1) (G := (fd_i (qt_f (yRq (g0 541) t lst day)) 0 ((yRq (g0 541) t lst day).length + 1) (0, -1)).2) (y_rm hR (by decide)) (fun WS h7 x22 x23 x24 x25 x26 x27 x28 x29 C Y => ?_) (yRq (g0 541) t lst day).length 0 _ 0 0 (-1) 0 _ _ _ _ _ _ _ _ _ (by omega) rfl rfl rfl (by omega) (by omega) C Y H101 (by omega) (by omega)
  replace hY := Y.1
  refine yy_fin.steps (n := 3) (s' := (669, [some (.ref 1), some (.ref w), some (.ref 0), some (.int (Int32.ofInt fr)), some (.int (Int32.ofInt (t : Int))), some (.int (Int32.ofInt (t2 : Int))), some (.int (Int32.ofInt day)), some (.int (Int32.ofInt (4 * (t : Int) + (t2 : Int)))), x8, x9, x10, x11, x12, x13, x14, some (.int (Int32.ofInt i15)), some (.int (Int32.ofInt (fd_i (sa_f (g0 541) t t2 lst day) 0 (yRq (g0 541) t lst day).length 0))), some (.int (Int32.ofInt ((fd_i (qt_f (yRq (g0 541) t lst day)) 0 ((yRq (g0 541) t lst day).length + 1) (0, -1)).1))), some (.int (Int32.ofInt ((fd_i (qt_f (yRq (g0 541) t lst day)) 0 ((yRq (g0 541) t lst day).length + 1) (0, -1)).2))), some (.int (Int32.ofInt WS)), some (.ref q101), some (.int (Int32.ofInt ((yRq (g0 541) t lst day).length : Int))), x22, x23, x24, x25, x26, x27, x28, x29], [.int (Int32.ofInt day), .int (Int32.ofInt (4 * (t : Int) + (t2 : Int))), .ref 1], h7)) rfl ?_
  obtain ⟨g102, r102⟩ := qi_138 F C ht ht2 hd
  obtain ⟨fs102, oo102⟩ := C.o
  refine yy_fin.cv (as := [.int (Int32.ofInt (4 * (t : Int) + (t2 : Int))), .int (Int32.ofInt day)]) rfl rfl rfl oo102 (Nat.le_of_ble_eq_true rfl) (Nat.le_of_ble_eq_true rfl) r102 ?_
  rintro v h102 ⟨rfl, C, x102⟩
  have hx102 := x102.1
  replace Y := Y.tr x102 (fun _ _ e => e)
  replace hY := Y.1
  refine yy_fin.steps (n := 1) (s' := (674, [some (.ref 1), some (.ref w), some (.ref 0), some (.int (Int32.ofInt fr)), some (.int (Int32.ofInt (t : Int))), some (.int (Int32.ofInt (t2 : Int))), some (.int (Int32.ofInt day)), some (.int (Int32.ofInt (4 * (t : Int) + (t2 : Int)))), x8, x9, x10, x11, x12, x13, x14, some (.int (Int32.ofInt i15)), some (.int (Int32.ofInt (fd_i (sa_f (g0 541) t t2 lst day) 0 (yRq (g0 541) t lst day).length 0))), some (.int (Int32.ofInt ((fd_i (qt_f (yRq (g0 541) t lst day)) 0 ((yRq (g0 541) t lst day).length + 1) (0, -1)).1))), some (.int (Int32.ofInt ((fd_i (qt_f (yRq (g0 541) t lst day)) 0 ((yRq (g0 541) t lst day).length + 1) (0, -1)).2))), some (.int (Int32.ofInt WS)), some (.ref q101), some (.int (Int32.ofInt ((yRq (g0 541) t lst day).length : Int))), x22, x23, x24, x25, x26, x27, x28, x29], [.int (Int32.ofInt (fd_i (sa_f (g0 541) t t2 lst day) 0 (yRq (g0 541) t lst day).length 0)), .int (Int32.ofInt (fd_i (sa_f (g0 541) t t2 lst day) 0 (yRq (g0 541) t lst day).length 0))], h102)) rfl ?_
  refine yy_fin.ic rfl (fun cz => absurd (congrArg Int32.ofInt (rfl : (fd_i (sa_f (g0 541) t t2 lst day) 0 (yRq (g0 541) t lst day).length 0) = (fd_i (sa_f (g0 541) t t2 lst day) 0 (yRq (g0 541) t lst day).length 0))) (y_cne cz)) (fun _ => ?_)
  refine yy_fin.steps (n := 4) (s' := (683, [some (.ref 1), some (.ref w), some (.ref 0), some (.int (Int32.ofInt fr)), some (.int (Int32.ofInt (t : Int))), some (.int (Int32.ofInt (t2 : Int))), some (.int (Int32.ofInt day)), some (.int (Int32.ofInt (4 * (t : Int) + (t2 : Int)))), x8, x9, x10, x11, x12, x13, x14, some (.int (Int32.ofInt i15)), some (.int (Int32.ofInt (fd_i (sa_f (g0 541) t t2 lst day) 0 (yRq (g0 541) t lst day).length 0))), some (.int (Int32.ofInt ((fd_i (qt_f (yRq (g0 541) t lst day)) 0 ((yRq (g0 541) t lst day).length + 1) (0, -1)).1))), some (.int (Int32.ofInt ((fd_i (qt_f (yRq (g0 541) t lst day)) 0 ((yRq (g0 541) t lst day).length + 1) (0, -1)).2))), some (.int (Int32.ofInt WS)), some (.ref q101), some (.int (Int32.ofInt ((yRq (g0 541) t lst day).length : Int))), x22, x23, x24, x25, x26, x27, x28, x29], [.int (Int32.ofInt 0), .int (Int32.ofInt day), .int (Int32.ofInt (t : Int)), .ref 1], h102)) rfl ?_
  obtain ⟨g103, r103⟩ := qi_119 F C ht hd (i := 0) (by omega)
  obtain ⟨fs103, oo103⟩ := C.o
  refine yy_fin.cv (as := [.int (Int32.ofInt (t : Int)), .int (Int32.ofInt day), .int (Int32.ofInt 0)]) rfl rfl rfl oo103 (Nat.le_of_ble_eq_true rfl) (Nat.le_of_ble_eq_true rfl) r103 ?_
  rintro v h103 ⟨rfl, C, x103⟩
  have hx103 := x103.1
  replace Y := Y.tr x103 (fun _ _ e => e)
  replace hY := Y.1
  refine yy_fin.steps (n := 1) (s' := (688, [some (.ref 1), some (.ref w), some (.ref 0), some (.int (Int32.ofInt fr)), some (.int (Int32.ofInt (t : Int))), some (.int (Int32.ofInt (t2 : Int))), some (.int (Int32.ofInt day)), some (.int (Int32.ofInt (4 * (t : Int) + (t2 : Int)))), x8, x9, x10, x11, x12, x13, x14, some (.int (Int32.ofInt i15)), some (.int (Int32.ofInt (fd_i (sa_f (g0 541) t t2 lst day) 0 (yRq (g0 541) t lst day).length 0))), some (.int (Int32.ofInt ((fd_i (qt_f (yRq (g0 541) t lst day)) 0 ((yRq (g0 541) t lst day).length + 1) (0, -1)).1))), some (.int (Int32.ofInt ((fd_i (qt_f (yRq (g0 541) t lst day)) 0 ((yRq (g0 541) t lst day).length + 1) (0, -1)).2))), some (.int (Int32.ofInt WS)), some (.ref q101), some (.int (Int32.ofInt ((yRq (g0 541) t lst day).length : Int))), x22, x23, x24, x25, x26, x27, x28, x29], [.int (Int32.ofInt ((fd_i (qt_f (yRq (g0 541) t lst day)) 0 ((yRq (g0 541) t lst day).length + 1) (0, -1)).1)), .int (Int32.ofInt ((fun s : Int × Int => if (0 : Int) = 0 then s.1 else s.2) (fd_i (qt_f (yRq (g0 541) t lst day)) 0 ((yRq (g0 541) t lst day).length + 1) (0, -1))))], h103)) rfl ?_
  refine yy_fin.ic rfl (fun cz => absurd (congrArg Int32.ofInt (rfl : ((fun s : Int × Int => if (0 : Int) = 0 then s.1 else s.2) (fd_i (qt_f (yRq (g0 541) t lst day)) 0 ((yRq (g0 541) t lst day).length + 1) (0, -1))) = (fd_i (qt_f (yRq (g0 541) t lst day)) 0 ((yRq (g0 541) t lst day).length + 1) (0, -1)).1)) (y_cne cz)) (fun _ => ?_)
  refine yy_fin.steps (n := 4) (s' := (697, [some (.ref 1), some (.ref w), some (.ref 0), some (.int (Int32.ofInt fr)), some (.int (Int32.ofInt (t : Int))), some (.int (Int32.ofInt (t2 : Int))), some (.int (Int32.ofInt day)), some (.int (Int32.ofInt (4 * (t : Int) + (t2 : Int)))), x8, x9, x10, x11, x12, x13, x14, some (.int (Int32.ofInt i15)), some (.int (Int32.ofInt (fd_i (sa_f (g0 541) t t2 lst day) 0 (yRq (g0 541) t lst day).length 0))), some (.int (Int32.ofInt ((fd_i (qt_f (yRq (g0 541) t lst day)) 0 ((yRq (g0 541) t lst day).length + 1) (0, -1)).1))), some (.int (Int32.ofInt ((fd_i (qt_f (yRq (g0 541) t lst day)) 0 ((yRq (g0 541) t lst day).length + 1) (0, -1)).2))), some (.int (Int32.ofInt WS)), some (.ref q101), some (.int (Int32.ofInt ((yRq (g0 541) t lst day).length : Int))), x22, x23, x24, x25, x26, x27, x28, x29], [.int (Int32.ofInt 1), .int (Int32.ofInt day), .int (Int32.ofInt (t : Int)), .ref 1], h103)) rfl ?_
  obtain ⟨g104, r104⟩ := qi_119 F C ht hd (i := 1) (by omega)
  obtain ⟨fs104, oo104⟩ := C.o
  refine yy_fin.cv (as := [.int (Int32.ofInt (t : Int)), .int (Int32.ofInt day), .int (Int32.ofInt 1)]) rfl rfl rfl oo104 (Nat.le_of_ble_eq_true rfl) (Nat.le_of_ble_eq_true rfl) r104 ?_
  rintro v h104 ⟨rfl, C, x104⟩
  have hx104 := x104.1
  replace Y := Y.tr x104 (fun _ _ e => e)
  replace hY := Y.1
  refine yy_fin.steps (n := 1) (s' := (702, [some (.ref 1), some (.ref w), some (.ref 0), some (.int (Int32.ofInt fr)), some (.int (Int32.ofInt (t : Int))), some (.int (Int32.ofInt (t2 : Int))), some (.int (Int32.ofInt day)), some (.int (Int32.ofInt (4 * (t : Int) + (t2 : Int)))), x8, x9, x10, x11, x12, x13, x14, some (.int (Int32.ofInt i15)), some (.int (Int32.ofInt (fd_i (sa_f (g0 541) t t2 lst day) 0 (yRq (g0 541) t lst day).length 0))), some (.int (Int32.ofInt ((fd_i (qt_f (yRq (g0 541) t lst day)) 0 ((yRq (g0 541) t lst day).length + 1) (0, -1)).1))), some (.int (Int32.ofInt ((fd_i (qt_f (yRq (g0 541) t lst day)) 0 ((yRq (g0 541) t lst day).length + 1) (0, -1)).2))), some (.int (Int32.ofInt WS)), some (.ref q101), some (.int (Int32.ofInt ((yRq (g0 541) t lst day).length : Int))), x22, x23, x24, x25, x26, x27, x28, x29], [.int (Int32.ofInt ((fd_i (qt_f (yRq (g0 541) t lst day)) 0 ((yRq (g0 541) t lst day).length + 1) (0, -1)).2)), .int (Int32.ofInt ((fun s : Int × Int => if (1 : Int) = 0 then s.1 else s.2) (fd_i (qt_f (yRq (g0 541) t lst day)) 0 ((yRq (g0 541) t lst day).length + 1) (0, -1))))], h104)) rfl ?_
  refine yy_fin.ic rfl (fun cz => absurd (congrArg Int32.ofInt (rfl : ((fun s : Int × Int => if (1 : Int) = 0 then s.1 else s.2) (fd_i (qt_f (yRq (g0 541) t lst day)) 0 ((yRq (g0 541) t lst day).length + 1) (0, -1))) = (fd_i (qt_f (yRq (g0 541) t lst day)) 0 ((yRq (g0 541) t lst day).length + 1) (0, -1)).2)) (y_cne cz)) (fun _ => ?_)
  refine yy_fin.steps (n := 3) (s' := (710, [some (.ref 1), some (.ref w), some (.ref 0), some (.int (Int32.ofInt fr)), some (.int (Int32.ofInt (t : Int))), some (.int (Int32.ofInt (t2 : Int))), some (.int (Int32.ofInt day)), some (.int (Int32.ofInt (4 * (t : Int) + (t2 : Int)))), x8, x9, x10, x11, x12, x13, x14, some (.int (Int32.ofInt i15)), some (.int (Int32.ofInt (fd_i (sa_f (g0 541) t t2 lst day) 0 (yRq (g0 541) t lst day).length 0))), some (.int (Int32.ofInt ((fd_i (qt_f (yRq (g0 541) t lst day)) 0 ((yRq (g0 541) t lst day).length + 1) (0, -1)).1))), some (.int (Int32.ofInt ((fd_i (qt_f (yRq (g0 541) t lst day)) 0 ((yRq (g0 541) t lst day).length + 1) (0, -1)).2))), some (.int (Int32.ofInt WS)), some (.ref q101), some (.int (Int32.ofInt ((yRq (g0 541) t lst day).length : Int))), x22, x23, x24, x25, x26, x27, x28, x29], [.int (Int32.ofInt day), .int (Int32.ofInt 16), .ref 1], h104)) rfl ?_
  obtain ⟨g105, r105⟩ := qm_138 F C hd
  obtain ⟨fs105, oo105⟩ := C.o
  refine yy_fin.cv (as := [.int (Int32.ofInt 16), .int (Int32.ofInt day)]) rfl rfl rfl oo105 (Nat.le_of_ble_eq_true rfl) (Nat.le_of_ble_eq_true rfl) r105 ?_
  rintro v h105 ⟨rfl, C, x105⟩
  have hx105 := x105.1
  replace Y := Y.tr x105 (fun _ _ e => e)
  replace hY := Y.1
  refine yy_fin.steps (n := 1) (s' := (714, [some (.ref 1), some (.ref w), some (.ref 0), some (.int (Int32.ofInt fr)), some (.int (Int32.ofInt (t : Int))), some (.int (Int32.ofInt (t2 : Int))), some (.int (Int32.ofInt day)), some (.int (Int32.ofInt (4 * (t : Int) + (t2 : Int)))), x8, x9, x10, x11, x12, x13, x14, some (.int (Int32.ofInt i15)), some (.int (Int32.ofInt (fd_i (sa_f (g0 541) t t2 lst day) 0 (yRq (g0 541) t lst day).length 0))), some (.int (Int32.ofInt ((fd_i (qt_f (yRq (g0 541) t lst day)) 0 ((yRq (g0 541) t lst day).length + 1) (0, -1)).1))), some (.int (Int32.ofInt ((fd_i (qt_f (yRq (g0 541) t lst day)) 0 ((yRq (g0 541) t lst day).length + 1) (0, -1)).2))), some (.int (Int32.ofInt WS)), some (.ref q101), some (.int (Int32.ofInt ((yRq (g0 541) t lst day).length : Int))), x22, x23, x24, x25, x26, x27, x28, x29], [.int (Int32.ofInt (-1)), .int (Int32.ofInt (-1))], h105)) rfl ?_
  refine yy_fin.ic rfl (fun cz => absurd (congrArg Int32.ofInt (rfl : (-1 : Int) = -1)) (y_cne cz)) (fun _ => ?_)
  refine yy_fin.steps (n := 6) (s' := (726, [some (.ref 1), some (.ref w), some (.ref 0), some (.int (Int32.ofInt fr)), some (.int (Int32.ofInt (t : Int))), some (.int (Int32.ofInt (t2 : Int))), some (.int (Int32.ofInt day)), some (.int (Int32.ofInt (4 * (t : Int) + (t2 : Int)))), x8, x9, x10, x11, x12, x13, x14, some (.int (Int32.ofInt i15)), some (.int (Int32.ofInt (fd_i (sa_f (g0 541) t t2 lst day) 0 (yRq (g0 541) t lst day).length 0))), some (.int (Int32.ofInt ((fd_i (qt_f (yRq (g0 541) t lst day)) 0 ((yRq (g0 541) t lst day).length + 1) (0, -1)).1))), some (.int (Int32.ofInt ((fd_i (qt_f (yRq (g0 541) t lst day)) 0 ((yRq (g0 541) t lst day).length + 1) (0, -1)).2))), some (.int (Int32.ofInt WS)), some (.ref q101), some (.int (Int32.ofInt ((yRq (g0 541) t lst day).length : Int))), x22, x23, x24, x25, x26, x27, x28, x29], [.int (Int32.ofInt 0), .int (Int32.ofInt day), .int (Int32.ofInt 0), .int (Int32.ofInt 24), .int (Int32.ofInt (4 * (t : Int) + (t2 : Int))), .ref 1], h105)) rfl ?_
  obtain ⟨g106, r106⟩ := qm_132 F C ht ht2 (day := day)
  obtain ⟨fs106, oo106⟩ := C.o
  refine yy_fin.cv (as := [.int (Int32.ofInt (4 * (t : Int) + (t2 : Int))), .int (Int32.ofInt 24), .int (Int32.ofInt 0), .int (Int32.ofInt day), .int (Int32.ofInt 0)]) rfl rfl rfl oo106 (Nat.le_of_ble_eq_true rfl) (Nat.le_of_ble_eq_true rfl) r106 ?_
  rintro v h106 ⟨rfl, C, x106⟩
  have hx106 := x106.1
  replace Y := Y.tr x106 (fun _ _ e => e)
  replace hY := Y.1
  refine yy_fin.steps (n := 1) (s' := (731, [some (.ref 1), some (.ref w), some (.ref 0), some (.int (Int32.ofInt fr)), some (.int (Int32.ofInt (t : Int))), some (.int (Int32.ofInt (t2 : Int))), some (.int (Int32.ofInt day)), some (.int (Int32.ofInt (4 * (t : Int) + (t2 : Int)))), x8, x9, x10, x11, x12, x13, x14, some (.int (Int32.ofInt i15)), some (.int (Int32.ofInt (fd_i (sa_f (g0 541) t t2 lst day) 0 (yRq (g0 541) t lst day).length 0))), some (.int (Int32.ofInt ((fd_i (qt_f (yRq (g0 541) t lst day)) 0 ((yRq (g0 541) t lst day).length + 1) (0, -1)).1))), some (.int (Int32.ofInt ((fd_i (qt_f (yRq (g0 541) t lst day)) 0 ((yRq (g0 541) t lst day).length + 1) (0, -1)).2))), some (.int (Int32.ofInt WS)), some (.ref q101), some (.int (Int32.ofInt ((yRq (g0 541) t lst day).length : Int))), x22, x23, x24, x25, x26, x27, x28, x29], [.int (Int32.ofInt (-1000000)), .int (Int32.ofInt (-1000000))], h106)) rfl ?_
  refine yy_fin.ic rfl (fun cz => absurd (congrArg Int32.ofInt (rfl : (-1000000 : Int) = -1000000)) (y_cne cz)) (fun _ => ?_)
  refine yy_fin.steps (n := 4) (s' := (740, [some (.ref 1), some (.ref w), some (.ref 0), some (.int (Int32.ofInt fr)), some (.int (Int32.ofInt (t : Int))), some (.int (Int32.ofInt (t2 : Int))), some (.int (Int32.ofInt day)), some (.int (Int32.ofInt (4 * (t : Int) + (t2 : Int)))), x8, x9, x10, x11, x12, x13, x14, some (.int (Int32.ofInt i15)), some (.int (Int32.ofInt (fd_i (sa_f (g0 541) t t2 lst day) 0 (yRq (g0 541) t lst day).length 0))), some (.int (Int32.ofInt ((fd_i (qt_f (yRq (g0 541) t lst day)) 0 ((yRq (g0 541) t lst day).length + 1) (0, -1)).1))), some (.int (Int32.ofInt ((fd_i (qt_f (yRq (g0 541) t lst day)) 0 ((yRq (g0 541) t lst day).length + 1) (0, -1)).2))), some (.int (Int32.ofInt WS)), some (.ref q101), some (.int (Int32.ofInt ((yRq (g0 541) t lst day).length : Int))), x22, x23, x24, x25, x26, x27, x28, x29], [.int (Int32.ofInt 0), .int (Int32.ofInt 36000), .int (Int32.ofInt (4 * (t : Int) + (t2 : Int))), .ref 1], h106)) rfl ?_
  obtain ⟨g107, r107⟩ := qm_135 F C ht ht2
  obtain ⟨fs107, oo107⟩ := C.o
  refine yy_fin.cv (as := [.int (Int32.ofInt (4 * (t : Int) + (t2 : Int))), .int (Int32.ofInt 36000), .int (Int32.ofInt 0)]) rfl rfl rfl oo107 (Nat.le_of_ble_eq_true rfl) (Nat.le_of_ble_eq_true rfl) r107 ?_
  rintro v h107 ⟨rfl, C, x107⟩
  have hx107 := x107.1
  replace Y := Y.tr x107 (fun _ _ e => e)
  replace hY := Y.1
  refine yy_fin.steps (n := 1) (s' := (744, [some (.ref 1), some (.ref w), some (.ref 0), some (.int (Int32.ofInt fr)), some (.int (Int32.ofInt (t : Int))), some (.int (Int32.ofInt (t2 : Int))), some (.int (Int32.ofInt day)), some (.int (Int32.ofInt (4 * (t : Int) + (t2 : Int)))), x8, x9, x10, x11, x12, x13, x14, some (.int (Int32.ofInt i15)), some (.int (Int32.ofInt (fd_i (sa_f (g0 541) t t2 lst day) 0 (yRq (g0 541) t lst day).length 0))), some (.int (Int32.ofInt ((fd_i (qt_f (yRq (g0 541) t lst day)) 0 ((yRq (g0 541) t lst day).length + 1) (0, -1)).1))), some (.int (Int32.ofInt ((fd_i (qt_f (yRq (g0 541) t lst day)) 0 ((yRq (g0 541) t lst day).length + 1) (0, -1)).2))), some (.int (Int32.ofInt WS)), some (.ref q101), some (.int (Int32.ofInt ((yRq (g0 541) t lst day).length : Int))), x22, x23, x24, x25, x26, x27, x28, x29], [.int (Int32.ofInt (-1)), .int (Int32.ofInt (-1))], h107)) rfl ?_
  refine yy_fin.ic rfl (fun cz => absurd (congrArg Int32.ofInt (rfl : (-1 : Int) = -1)) (y_cne cz)) (fun _ => ?_)
  refine yy_fin.steps (n := 5) (s' := (753, [some (.ref 1), some (.ref w), some (.ref 0), some (.int (Int32.ofInt fr)), some (.int (Int32.ofInt (t : Int))), some (.int (Int32.ofInt (t2 : Int))), some (.int (Int32.ofInt day)), some (.int (Int32.ofInt (4 * (t : Int) + (t2 : Int)))), x8, x9, x10, x11, x12, x13, x14, some (.int (Int32.ofInt i15)), some (.int (Int32.ofInt (fd_i (sa_f (g0 541) t t2 lst day) 0 (yRq (g0 541) t lst day).length 0))), some (.int (Int32.ofInt ((fd_i (qt_f (yRq (g0 541) t lst day)) 0 ((yRq (g0 541) t lst day).length + 1) (0, -1)).1))), some (.int (Int32.ofInt ((fd_i (qt_f (yRq (g0 541) t lst day)) 0 ((yRq (g0 541) t lst day).length + 1) (0, -1)).2))), some (.int (Int32.ofInt WS)), some (.ref q101), some (.int (Int32.ofInt ((yRq (g0 541) t lst day).length : Int))), x22, x23, x24, x25, x26, x27, x28, x29], [.int (Int32.ofInt 0), .int (Int32.ofInt 0), .int (Int32.ofInt day), .int (Int32.ofInt (-1)), .ref 1], h107)) rfl ?_
  obtain ⟨g108, r108⟩ := qm_140 F C (day := day)
  obtain ⟨fs108, oo108⟩ := C.o
  refine yy_fin.cv (as := [.int (Int32.ofInt (-1)), .int (Int32.ofInt day), .int (Int32.ofInt 0), .int (Int32.ofInt 0)]) rfl rfl rfl oo108 (Nat.le_of_ble_eq_true rfl) (Nat.le_of_ble_eq_true rfl) r108 ?_
  rintro v h108 ⟨rfl, C, x108⟩
  have hx108 := x108.1
  replace Y := Y.tr x108 (fun _ _ e => e)
  replace hY := Y.1
  refine yy_fin.steps (n := 1) (s' := (758, [some (.ref 1), some (.ref w), some (.ref 0), some (.int (Int32.ofInt fr)), some (.int (Int32.ofInt (t : Int))), some (.int (Int32.ofInt (t2 : Int))), some (.int (Int32.ofInt day)), some (.int (Int32.ofInt (4 * (t : Int) + (t2 : Int)))), x8, x9, x10, x11, x12, x13, x14, some (.int (Int32.ofInt i15)), some (.int (Int32.ofInt (fd_i (sa_f (g0 541) t t2 lst day) 0 (yRq (g0 541) t lst day).length 0))), some (.int (Int32.ofInt ((fd_i (qt_f (yRq (g0 541) t lst day)) 0 ((yRq (g0 541) t lst day).length + 1) (0, -1)).1))), some (.int (Int32.ofInt ((fd_i (qt_f (yRq (g0 541) t lst day)) 0 ((yRq (g0 541) t lst day).length + 1) (0, -1)).2))), some (.int (Int32.ofInt WS)), some (.ref q101), some (.int (Int32.ofInt ((yRq (g0 541) t lst day).length : Int))), x22, x23, x24, x25, x26, x27, x28, x29], [.int (Int32.ofInt (-1000000)), .int (Int32.ofInt (-1000000))], h108)) rfl ?_
  refine yy_fin.ic rfl (fun cz => absurd (congrArg Int32.ofInt (rfl : (-1000000 : Int) = -1000000)) (y_cne cz)) (fun _ => ?_)
  refine yy_fin.steps (n := 2) (s' := (766, [some (.ref 1), some (.ref w), some (.ref 0), some (.int (Int32.ofInt fr)), some (.int (Int32.ofInt (t : Int))), some (.int (Int32.ofInt (t2 : Int))), some (.int (Int32.ofInt day)), some (.int (Int32.ofInt (4 * (t : Int) + (t2 : Int)))), x8, x9, x10, x11, x12, x13, x14, some (.int (Int32.ofInt i15)), some (.int (Int32.ofInt (fd_i (sa_f (g0 541) t t2 lst day) 0 (yRq (g0 541) t lst day).length 0))), some (.int (Int32.ofInt ((fd_i (qt_f (yRq (g0 541) t lst day)) 0 ((yRq (g0 541) t lst day).length + 1) (0, -1)).1))), some (.int (Int32.ofInt ((fd_i (qt_f (yRq (g0 541) t lst day)) 0 ((yRq (g0 541) t lst day).length + 1) (0, -1)).2))), some (.int (Int32.ofInt WS)), some (.ref q101), some (.int (Int32.ofInt ((yRq (g0 541) t lst day).length : Int))), x22, x23, x24, x25, x26, x27, x28, x29], [.int (Int32.ofInt 1)], h108)) rfl ?_
  exact yy_fin.at (n := 1) rfl (kk _ _ C (Y.le (by omega) (by omega)))
theorem yl_both (F : yCf own w lst g0) (ht : (t : Int) < (g0 541 0).toInt) (ht2 : (t2 : Int) < (g0 541 0).toInt) (hd : 0 ≤ day ∧ day ≤ 35999) (hX : X.1 = some (L, xs)) (hL : L ≤ 100000) (hfr : 0 ≤ fr ∧ fr ≤ 900000) (C : yCx own w lst g0 h g) (hB : h.1.1 + 10000 < yy_B) : yy_fin X 300 (0, zz_in [.ref 1, .ref w, .ref 0, .int (Int32.ofInt fr), .int (Int32.ofInt (t : Int)), .int (Int32.ofInt (t2 : Int)), .int (Int32.ofInt day)] (zz_nl 300), [], h) (fun r h' => r = some (.int (Int32.ofInt 1)) ∧ ∃ g', yCx own w lst g0 h' g' ∧ yx (yAk w) 4640 20450 h h') := by
  refine ym_a F ht ht2 hd hX hL hfr C (by omega) fun h1 g1 one two i10 i11 x12 i13 x14 x15 x16 x17 C1 Y1 => ?_
  refine ym_b F ht ht2 hd C1 Y1 (by omega) fun x12 h2 g2 x13 x14 i15 x16 x17 x18 x19 C2 Y2 => ?_
  exact ym_z F ht ht2 hd C2 Y2 (by omega) fun h3 g3 C3 Y3 => ⟨rfl, g3, C3, Y3.le (by omega) (by omega)⟩
end YD23
