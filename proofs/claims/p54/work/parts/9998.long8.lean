/-! THE LAW ASKS OF MANY DAYS (298): what it asks last (printed by wip/p54/w18.py) -/
section YD18
variable {X : yy_X} {own : yOwn} {w t L : Nat} {xs : Nat → Int32} {lst : List (yBell × List fl_T)} {g0 g : aa_G} {h h0 : zz_H} {day fr : Int} {φ : Option Value → zz_H → Prop}
theorem qn_124 (F : yCf own w lst g0) (C : yCx own w lst g0 h g) (ht : (t : Int) < (g0 541 0).toInt) : ∃ g', ∀ {X : yy_X}, yy_fin X 124 (0, zz_in [.ref 1, .int (Int32.ofInt (t : Int)), .int (Int32.ofInt 0), .int (Int32.ofInt 361), .int (Int32.ofInt 0), .int (Int32.ofInt 0)] (zz_nl 124), [], h) (fun v h' => v = some (.int (Int32.ofInt (-1))) ∧ yCx own w lst g0 h' g' ∧ yx (yAk w) 0 0 h h') := by
  obtain ⟨x, g', ⟨Y, W, eY, e⟩, r⟩ := yq_124 F C (Int32.ofInt (t : Int)) (Int32.ofInt 0) (Int32.ofInt 361) (Int32.ofInt 0) (Int32.ofInt 0)
  have e2 : x = Int32.ofInt (-1) := by
    rw [e]
    unfold fn_232
    rw [← yi_n t, if_neg (y_192 W (by rw [eY]; exact ht)), if_pos (show fn_154 (Int32.ofInt 361) 1 360 = 0 from ti_154z.mpr (by decide))]
    rfl
  subst e2
  exact ⟨g', r⟩
theorem qn_114 (F : yCf own w lst g0) (C : yCx own w lst g0 h g) (ht : (t : Int) < (g0 541 0).toInt) : ∃ g', ∀ {X : yy_X}, yy_fin X 114 (0, zz_in [.ref 1, .int (Int32.ofInt (t : Int)), .int (Int32.ofInt 0), .int (Int32.ofInt 61)] (zz_nl 114), [], h) (fun v h' => v = some (.int (Int32.ofInt (-1))) ∧ yCx own w lst g0 h' g' ∧ yx (yAk w) 0 0 h h') := by
  obtain ⟨x, g', ⟨Y, W, eY, e⟩, r⟩ := yq_114 F C (Int32.ofInt (t : Int)) (Int32.ofInt 0) (Int32.ofInt 61)
  have e2 : x = Int32.ofInt (-1) := by
    rw [e]
    unfold fn_246
    rw [← yi_n t, if_neg (y_192 W (by rw [eY]; exact ht)), if_neg (y_193 (day := 0) (by omega)), if_neg (show ¬ fn_154 (Int32.ofInt 61) 1 60 ≠ 0 from fun z => z (ti_154z.mpr (by decide)))]
    rfl
  subst e2
  exact ⟨g', r⟩
theorem qn_129 (F : yCf own w lst g0) (C : yCx own w lst g0 h g) (ht : (t : Int) < (g0 541 0).toInt) : ∃ g', ∀ {X : yy_X}, yy_fin X 129 (0, zz_in [.ref 1, .int (Int32.ofInt (t : Int))] (zz_nl 129), [], h) (fun v h' => v = some (.int (Int32.ofInt (s_129 (g0 541) t))) ∧ yCx own w lst g0 h' g' ∧ yx (yAk w) 0 0 h h') := qi_129 F C ht
theorem yl_lz (F : yCf own w lst g0) (ht : (t : Int) < (g0 541 0).toInt) {a e : Nat} {x6 x7 x8 x9 x10 x11 x12 x13 x14 x15 x16 x17 x18 x19 x20 x21 x22 x23 x25 x26 x27 : Option Value} (C : yCx own w lst g0 h g) (Y : yx (yAk w) a e h0 h) (kk : ∀ h' g', yCx own w lst g0 h' g' → yx (yAk w) a e h0 h' → φ (some (.int (Int32.ofInt 1))) h') : yy_fin X 298 (1145, [some (.ref 1), some (.ref w), some (.ref 0), some (.int (Int32.ofInt fr)), some (.int (Int32.ofInt (t : Int))), some (.int (Int32.ofInt day)), x6, x7, x8, x9, x10, x11, x12, x13, x14, x15, x16, x17, x18, x19, x20, x21, x22, x23, some (.int (Int32.ofInt (s_129 (g0 541) t))), x25, x26, x27], [], h) φ := by
  have n4 := F.2.2.2.1
  have hq := F.2.2.2.2.1
  have hY := Y.1
  have hg := C.2.1.2
  have l8 := F.2.2.1.2.1
  refine yy_fin.steps (n := 2) (s' := (1148, [some (.ref 1), some (.ref w), some (.ref 0), some (.int (Int32.ofInt fr)), some (.int (Int32.ofInt (t : Int))), some (.int (Int32.ofInt day)), x6, x7, x8, x9, x10, x11, x12, x13, x14, x15, x16, x17, x18, x19, x20, x21, x22, x23, some (.int (Int32.ofInt (s_129 (g0 541) t))), x25, x26, x27], [.int (Int32.ofInt (t : Int)), .ref 1], h)) rfl ?_
  obtain ⟨g101, r101⟩ := qn_129 F C ht
  obtain ⟨fs101, oo101⟩ := C.o
  refine yy_fin.cv (as := [.int (Int32.ofInt (t : Int))]) rfl rfl rfl oo101 (Nat.le_of_ble_eq_true rfl) (Nat.le_of_ble_eq_true rfl) r101 ?_
  rintro v h101 ⟨rfl, C, x101⟩
  have hx101 := x101.1
  replace Y := Y.tr x101 (fun _ _ e => e)
  replace hY := Y.1
  refine yy_fin.steps (n := 1) (s' := (1153, [some (.ref 1), some (.ref w), some (.ref 0), some (.int (Int32.ofInt fr)), some (.int (Int32.ofInt (t : Int))), some (.int (Int32.ofInt day)), x6, x7, x8, x9, x10, x11, x12, x13, x14, x15, x16, x17, x18, x19, x20, x21, x22, x23, some (.int (Int32.ofInt (s_129 (g0 541) t))), x25, x26, x27], [.int (Int32.ofInt (s_129 (g0 541) t)), .int (Int32.ofInt (s_129 (g0 541) t))], h101)) rfl ?_
  refine yy_fin.ic rfl (fun cz => absurd (congrArg Int32.ofInt (rfl : s_129 (g0 541) t = s_129 (g0 541) t)) (y_cne cz)) (fun _ => ?_)
  refine yy_fin.steps (n := 3) (s' := (1160, [some (.ref 1), some (.ref w), some (.ref 0), some (.int (Int32.ofInt fr)), some (.int (Int32.ofInt (t : Int))), some (.int (Int32.ofInt day)), x6, x7, x8, x9, x10, x11, x12, x13, x14, x15, x16, x17, x18, x19, x20, x21, x22, x23, some (.int (Int32.ofInt (s_129 (g0 541) t))), x25, x26, x27], [.int (Int32.ofInt 4), .int (Int32.ofInt (t : Int)), .ref 1], h101)) rfl ?_
  obtain ⟨g102, r102⟩ := qi_122 F C ht (k := 4) (by omega)
  obtain ⟨fs102, oo102⟩ := C.o
  refine yy_fin.cv (as := [.int (Int32.ofInt (t : Int)), .int (Int32.ofInt 4)]) rfl rfl rfl oo102 (Nat.le_of_ble_eq_true rfl) (Nat.le_of_ble_eq_true rfl) r102 ?_
  rintro v h102 ⟨rfl, C, x102⟩
  have hx102 := x102.1
  replace Y := Y.tr x102 (fun _ _ e => e)
  replace hY := Y.1
  refine yy_fin.steps (n := 1) (s' := (1164, [some (.ref 1), some (.ref w), some (.ref 0), some (.int (Int32.ofInt fr)), some (.int (Int32.ofInt (t : Int))), some (.int (Int32.ofInt day)), x6, x7, x8, x9, x10, x11, x12, x13, x14, x15, x16, x17, x18, x19, x20, x21, x22, x23, some (.int (Int32.ofInt (s_129 (g0 541) t))), x25, x26, x27], [.int (Int32.ofInt (-1)), .int (Int32.ofInt (if (4 : Int) = 4 then -1 else s_23 (g0 541) t 4))], h102)) rfl ?_
  refine yy_fin.ic rfl (fun cz => absurd (congrArg Int32.ofInt (if_pos rfl : (if (4 : Int) = 4 then (-1 : Int) else s_23 (g0 541) t 4) = -1)) (y_cne cz)) (fun _ => ?_)
  refine yy_fin.steps (n := 6) (s' := (1175, [some (.ref 1), some (.ref w), some (.ref 0), some (.int (Int32.ofInt fr)), some (.int (Int32.ofInt (t : Int))), some (.int (Int32.ofInt day)), x6, x7, x8, x9, x10, x11, x12, x13, x14, x15, x16, x17, x18, x19, x20, x21, x22, x23, some (.int (Int32.ofInt (s_129 (g0 541) t))), x25, x26, x27], [.int (Int32.ofInt 12), .int (Int32.ofInt 0), .int (Int32.ofInt 4), .int (Int32.ofInt 5), .int (Int32.ofInt (t : Int)), .ref 1], h102)) rfl ?_
  obtain ⟨g103, r103⟩ := qi_121 F C ht (day := 5) (d2 := 4) (n := 0) (m := 12) (by omega) (by omega) (by omega) (by omega)
  obtain ⟨fs103, oo103⟩ := C.o
  refine yy_fin.cv (as := [.int (Int32.ofInt (t : Int)), .int (Int32.ofInt 5), .int (Int32.ofInt 4), .int (Int32.ofInt 0), .int (Int32.ofInt 12)]) rfl rfl rfl oo103 (Nat.le_of_ble_eq_true rfl) (Nat.le_of_ble_eq_true rfl) r103 ?_
  rintro v h103 ⟨rfl, C, x103⟩
  have hx103 := x103.1
  replace Y := Y.tr x103 (fun _ _ e => e)
  replace hY := Y.1
  refine yy_fin.steps (n := 1) (s' := (1179, [some (.ref 1), some (.ref w), some (.ref 0), some (.int (Int32.ofInt fr)), some (.int (Int32.ofInt (t : Int))), some (.int (Int32.ofInt day)), x6, x7, x8, x9, x10, x11, x12, x13, x14, x15, x16, x17, x18, x19, x20, x21, x22, x23, some (.int (Int32.ofInt (s_129 (g0 541) t))), x25, x26, x27], [.int (Int32.ofInt (-1)), .int (Int32.ofInt (if ¬ (0 ≤ (5 : Int) ∧ (5 : Int) ≤ 35999) ∨ ¬ (0 ≤ (4 : Int) ∧ (4 : Int) ≤ 35999) ∨ ¬ ((5 : Int) ≤ (4 : Int) ∧ (4 : Int) ≤ 5 + 359) ∨ ¬ (0 ≤ (0 : Int) ∧ (0 : Int) < 12 ∧ (12 : Int) ≤ 12) then -1 else sm_i (ww_d (g0 541) t 0 12) (5 : Int).toNat ((4 : Int).toNat + 1 - (5 : Int).toNat)))], h103)) rfl ?_
  have q4 : (if ¬ (0 ≤ (5 : Int) ∧ (5 : Int) ≤ 35999) ∨ ¬ (0 ≤ (4 : Int) ∧ (4 : Int) ≤ 35999) ∨ ¬ ((5 : Int) ≤ (4 : Int) ∧ (4 : Int) ≤ 5 + 359) ∨ ¬ (0 ≤ (0 : Int) ∧ (0 : Int) < 12 ∧ (12 : Int) ≤ 12) then -1 else sm_i (ww_d (g0 541) t 0 12) (5 : Int).toNat ((4 : Int).toNat + 1 - (5 : Int).toNat)) = -1 := if_pos (by omega)
  refine yy_fin.ic rfl (fun cz => absurd (congrArg Int32.ofInt q4) (y_cne cz)) (fun _ => ?_)
  refine yy_fin.steps (n := 6) (s' := (1189, [some (.ref 1), some (.ref w), some (.ref 0), some (.int (Int32.ofInt fr)), some (.int (Int32.ofInt (t : Int))), some (.int (Int32.ofInt day)), x6, x7, x8, x9, x10, x11, x12, x13, x14, x15, x16, x17, x18, x19, x20, x21, x22, x23, some (.int (Int32.ofInt (s_129 (g0 541) t))), x25, x26, x27], [.int (Int32.ofInt 3), .int (Int32.ofInt 3), .int (Int32.ofInt 5), .int (Int32.ofInt 5), .int (Int32.ofInt (t : Int)), .ref 1], h103)) rfl ?_
  obtain ⟨g104, r104⟩ := qi_121 F C ht (day := 5) (d2 := 5) (n := 3) (m := 3) (by omega) (by omega) (by omega) (by omega)
  obtain ⟨fs104, oo104⟩ := C.o
  refine yy_fin.cv (as := [.int (Int32.ofInt (t : Int)), .int (Int32.ofInt 5), .int (Int32.ofInt 5), .int (Int32.ofInt 3), .int (Int32.ofInt 3)]) rfl rfl rfl oo104 (Nat.le_of_ble_eq_true rfl) (Nat.le_of_ble_eq_true rfl) r104 ?_
  rintro v h104 ⟨rfl, C, x104⟩
  have hx104 := x104.1
  replace Y := Y.tr x104 (fun _ _ e => e)
  replace hY := Y.1
  refine yy_fin.steps (n := 1) (s' := (1193, [some (.ref 1), some (.ref w), some (.ref 0), some (.int (Int32.ofInt fr)), some (.int (Int32.ofInt (t : Int))), some (.int (Int32.ofInt day)), x6, x7, x8, x9, x10, x11, x12, x13, x14, x15, x16, x17, x18, x19, x20, x21, x22, x23, some (.int (Int32.ofInt (s_129 (g0 541) t))), x25, x26, x27], [.int (Int32.ofInt (-1)), .int (Int32.ofInt (if ¬ (0 ≤ (5 : Int) ∧ (5 : Int) ≤ 35999) ∨ ¬ (0 ≤ (5 : Int) ∧ (5 : Int) ≤ 35999) ∨ ¬ ((5 : Int) ≤ (5 : Int) ∧ (5 : Int) ≤ 5 + 359) ∨ ¬ (0 ≤ (3 : Int) ∧ (3 : Int) < 3 ∧ (3 : Int) ≤ 12) then -1 else sm_i (ww_d (g0 541) t 3 3) (5 : Int).toNat ((5 : Int).toNat + 1 - (5 : Int).toNat)))], h104)) rfl ?_
  have q5 : (if ¬ (0 ≤ (5 : Int) ∧ (5 : Int) ≤ 35999) ∨ ¬ (0 ≤ (5 : Int) ∧ (5 : Int) ≤ 35999) ∨ ¬ ((5 : Int) ≤ (5 : Int) ∧ (5 : Int) ≤ 5 + 359) ∨ ¬ (0 ≤ (3 : Int) ∧ (3 : Int) < 3 ∧ (3 : Int) ≤ 12) then -1 else sm_i (ww_d (g0 541) t 3 3) (5 : Int).toNat ((5 : Int).toNat + 1 - (5 : Int).toNat)) = -1 := if_pos (by omega)
  refine yy_fin.ic rfl (fun cz => absurd (congrArg Int32.ofInt q5) (y_cne cz)) (fun _ => ?_)
  refine yy_fin.steps (n := 6) (s' := (1205, [some (.ref 1), some (.ref w), some (.ref 0), some (.int (Int32.ofInt fr)), some (.int (Int32.ofInt (t : Int))), some (.int (Int32.ofInt day)), x6, x7, x8, x9, x10, x11, x12, x13, x14, x15, x16, x17, x18, x19, x20, x21, x22, x23, some (.int (Int32.ofInt (s_129 (g0 541) t))), x25, x26, x27], [.int (Int32.ofInt 0), .int (Int32.ofInt 0), .int (Int32.ofInt 361), .int (Int32.ofInt 0), .int (Int32.ofInt (t : Int)), .ref 1], h104)) rfl ?_
  obtain ⟨g105, r105⟩ := qn_124 F C ht
  obtain ⟨fs105, oo105⟩ := C.o
  refine yy_fin.cv (as := [.int (Int32.ofInt (t : Int)), .int (Int32.ofInt 0), .int (Int32.ofInt 361), .int (Int32.ofInt 0), .int (Int32.ofInt 0)]) rfl rfl rfl oo105 (Nat.le_of_ble_eq_true rfl) (Nat.le_of_ble_eq_true rfl) r105 ?_
  rintro v h105 ⟨rfl, C, x105⟩
  have hx105 := x105.1
  replace Y := Y.tr x105 (fun _ _ e => e)
  replace hY := Y.1
  refine yy_fin.steps (n := 1) (s' := (1209, [some (.ref 1), some (.ref w), some (.ref 0), some (.int (Int32.ofInt fr)), some (.int (Int32.ofInt (t : Int))), some (.int (Int32.ofInt day)), x6, x7, x8, x9, x10, x11, x12, x13, x14, x15, x16, x17, x18, x19, x20, x21, x22, x23, some (.int (Int32.ofInt (s_129 (g0 541) t))), x25, x26, x27], [.int (Int32.ofInt (-1)), .int (Int32.ofInt (-1))], h105)) rfl ?_
  refine yy_fin.ic rfl (fun cz => absurd (congrArg Int32.ofInt (rfl : (-1 : Int) = -1)) (y_cne cz)) (fun _ => ?_)
  refine yy_fin.steps (n := 4) (s' := (1218, [some (.ref 1), some (.ref w), some (.ref 0), some (.int (Int32.ofInt fr)), some (.int (Int32.ofInt (t : Int))), some (.int (Int32.ofInt day)), x6, x7, x8, x9, x10, x11, x12, x13, x14, x15, x16, x17, x18, x19, x20, x21, x22, x23, some (.int (Int32.ofInt (s_129 (g0 541) t))), x25, x26, x27], [.int (Int32.ofInt 61), .int (Int32.ofInt 0), .int (Int32.ofInt (t : Int)), .ref 1], h105)) rfl ?_
  obtain ⟨g106, r106⟩ := qn_114 F C ht
  obtain ⟨fs106, oo106⟩ := C.o
  refine yy_fin.cv (as := [.int (Int32.ofInt (t : Int)), .int (Int32.ofInt 0), .int (Int32.ofInt 61)]) rfl rfl rfl oo106 (Nat.le_of_ble_eq_true rfl) (Nat.le_of_ble_eq_true rfl) r106 ?_
  rintro v h106 ⟨rfl, C, x106⟩
  have hx106 := x106.1
  replace Y := Y.tr x106 (fun _ _ e => e)
  replace hY := Y.1
  refine yy_fin.steps (n := 1) (s' := (1222, [some (.ref 1), some (.ref w), some (.ref 0), some (.int (Int32.ofInt fr)), some (.int (Int32.ofInt (t : Int))), some (.int (Int32.ofInt day)), x6, x7, x8, x9, x10, x11, x12, x13, x14, x15, x16, x17, x18, x19, x20, x21, x22, x23, some (.int (Int32.ofInt (s_129 (g0 541) t))), x25, x26, x27], [.int (Int32.ofInt (-1)), .int (Int32.ofInt (-1))], h106)) rfl ?_
  refine yy_fin.ic rfl (fun cz => absurd (congrArg Int32.ofInt (rfl : (-1 : Int) = -1)) (y_cne cz)) (fun _ => ?_)
  refine yy_fin.steps (n := 2) (s' := (1230, [some (.ref 1), some (.ref w), some (.ref 0), some (.int (Int32.ofInt fr)), some (.int (Int32.ofInt (t : Int))), some (.int (Int32.ofInt day)), x6, x7, x8, x9, x10, x11, x12, x13, x14, x15, x16, x17, x18, x19, x20, x21, x22, x23, some (.int (Int32.ofInt (s_129 (g0 541) t))), x25, x26, x27], [.int (Int32.ofInt 1)], h106)) rfl ?_
  exact yy_fin.at (n := 1) rfl (kk _ _ C (Y.le (by omega) (by omega)))
end YD18
