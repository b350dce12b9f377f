/-! THE LAW ASKS (278): where there is no town (printed by wip/p54/w27.py) -/
section YD27
variable {X : yy_X} {own : yOwn} {w t t2 L : Nat} {xs : Nat → Int32} {lst : List (yBell × List fl_T)} {g0 g : aa_G} {h h0 : zz_H} {day fr : Int} {φ : Option Value → zz_H → Prop}
theorem q0_76 (F : yCf own w lst g0) (C : yCx own w lst g0 h g) (hN : (g0 541 0).toInt = 0) : ∃ g', ∀ {X : yy_X}, yy_fin X 76 (0, zz_in [.ref 1, .int (Int32.ofInt 0), .int (Int32.ofInt 0), .int (Int32.ofInt 0)] (zz_nl 76), [], h) (fun v h' => v = some (.int (Int32.ofInt (-1))) ∧ yCx own w lst g0 h' g' ∧ yx (yAk w) 0 0 h h') := by
  obtain ⟨x, g', e, r⟩ := yq_76 F C (Int32.ofInt 0) (Int32.ofInt 0) (Int32.ofInt 0)
  have e3 : sp_11 (g0 541) (Int32.ofInt 0) (Int32.ofInt 0) (Int32.ofInt 0) = -1 := by
    unfold sp_11
    exact if_pos (Or.inl (show ¬ (0 ≤ (Int32.ofInt 0).toInt ∧ (Int32.ofInt 0).toInt < (g0 541 0).toInt) by rw [hN]; decide))
  have e2 : x = Int32.ofInt (-1) := by rw [← yi_of x, e, e3]
  subst e2
  exact ⟨g', r⟩
theorem q0_85 (F : yCf own w lst g0) (C : yCx own w lst g0 h g) (hN : (g0 541 0).toInt = 0) : ∃ g', ∀ {X : yy_X}, yy_fin X 85 (0, zz_in [.ref 1, .int (Int32.ofInt 0), .int (Int32.ofInt 0), .int (Int32.ofInt 0), .int (Int32.ofInt 0)] (zz_nl 85), [], h) (fun v h' => v = some (.int (Int32.ofInt (-1))) ∧ yCx own w lst g0 h' g' ∧ yx (yAk w) 0 0 h h') := by
  obtain ⟨x, g', e, r⟩ := yq_85 F C (Int32.ofInt 0) (Int32.ofInt 0) (Int32.ofInt 0) (Int32.ofInt 0)
  have e2 : x = Int32.ofInt (-1) := by
    rw [e]
    unfold sp_12
    exact if_pos (Or.inl (show ¬ (0 ≤ (Int32.ofInt 0).toInt ∧ (Int32.ofInt 0).toInt < (g0 541 0).toInt) by rw [hN]; decide))
  subst e2
  exact ⟨g', r⟩
theorem q0_122 (F : yCf own w lst g0) (C : yCx own w lst g0 h g) (hN : (g0 541 0).toInt = 0) : ∃ g', ∀ {X : yy_X}, yy_fin X 122 (0, zz_in [.ref 1, .int (Int32.ofInt 0), .int (Int32.ofInt 0)] (zz_nl 122), [], h) (fun v h' => v = some (.int (Int32.ofInt (-1))) ∧ yCx own w lst g0 h' g' ∧ yx (yAk w) 0 0 h h') := by
  obtain ⟨x, g', e, r⟩ := yq_122 F C (Int32.ofInt 0) (Int32.ofInt 0)
  have e2 : x = Int32.ofInt (-1) := by
    rw [e]
    unfold sp_23
    exact if_pos (Or.inl (show ¬ (0 ≤ (Int32.ofInt 0).toInt ∧ (Int32.ofInt 0).toInt < (g0 541 0).toInt) by rw [hN]; decide))
  subst e2
  exact ⟨g', r⟩
theorem q0_102 (F : yCf own w lst g0) (C : yCx own w lst g0 h g) (hN : (g0 541 0).toInt = 0) : ∃ g', ∀ {X : yy_X}, yy_fin X 102 (0, zz_in [.ref 1, .int (Int32.ofInt 0), .int (Int32.ofInt 0), .int (Int32.ofInt (-1)), .int (Int32.ofInt 0)] (zz_nl 102), [], h) (fun v h' => v = some (.int (Int32.ofInt (-1))) ∧ yCx own w lst g0 h' g' ∧ yx (yAk w) 0 0 h h') := by
  obtain ⟨x, g', ⟨Y, W, eY, e⟩, r⟩ := yq_102 F C (Int32.ofInt 0) (Int32.ofInt 0) (Int32.ofInt (-1)) (Int32.ofInt 0) (by decide) (by decide)
  have e2 : x = Int32.ofInt (-1) := by
    rw [e]
    unfold fn_211
    rw [if_pos ((gd_191z W).mpr fun z => by have := z.1; rw [eY, hN] at this; exact absurd this (by decide))]
    rfl
  subst e2
  exact ⟨g', r⟩
theorem q0_135 (F : yCf own w lst g0) (C : yCx own w lst g0 h g) (hN : (g0 541 0).toInt = 0) : ∃ g', ∀ {X : yy_X}, yy_fin X 135 (0, zz_in [.ref 1, .int (Int32.ofInt 0), .int (Int32.ofInt 0), .int (Int32.ofInt 0)] (zz_nl 135), [], h) (fun v h' => v = some (.int (Int32.ofInt (-1))) ∧ yCx own w lst g0 h' g' ∧ yx (yAk w) 0 0 h h') := by
  obtain ⟨x, g', ⟨Y, W, eY, e⟩, r⟩ := yq_135 F C (Int32.ofInt 0) (Int32.ofInt 0) (Int32.ofInt 0)
  have e2 : x = Int32.ofInt (-1) := by
    rw [e]
    unfold fn_235
    rw [if_neg (show ¬ fn_154 (Int32.ofInt 0) 0 15 = 0 from y_154 (a := 0) (lo := 0) (hi := 15) (by omega) (by omega) (by omega) (by omega)), if_pos ((gd_192z W).mpr fun z => by rw [eY, hN] at z; exact absurd z (by decide))]
    rfl
  subst e2
  exact ⟨g', r⟩
theorem ya_0 (F : yCf own w lst g0) (hN : (g0 541 0).toInt = 0) {a e : Nat} (C : yCx own w lst g0 h g) (Y : yx (yAk w) a e h0 h) (kk : ∀ h' g', yCx own w lst g0 h' g' → yx (yAk w) a e h0 h' → φ (some (.int (Int32.ofInt 1))) h') : yy_fin X 278 (12, [some (.ref 1), some (.ref w), some (.ref 0), some (.int (Int32.ofInt fr)), some (.int (Int32.ofInt ((g0 541 0).toInt))), none, none, none, none, none, none, none, none, none, none, none, none, none, none, none, none, none, none, none, none, none, none, none, none, none, none], [], h) φ := by
  have n4 := F.2.2.2.1
  have hq := F.2.2.2.2.1
  have hY := Y.1
  have hg := C.2.1.2
  have l8 := F.2.2.1.2.1
  have es : s_131 (g0 541) 0 0 = -2 := by
    unfold s_131
    rw [hN]
    rfl
  refine yy_fin.steps (n := 4) (s' := (16, [some (.ref 1), some (.ref w), some (.ref 0), some (.int (Int32.ofInt fr)), some (.int (Int32.ofInt ((g0 541 0).toInt))), none, none, none, none, none, none, none, none, none, none, none, none, none, none, none, none, none, none, none, none, none, none, none, none, none, none], [.int (Int32.ofInt 0), .int (Int32.ofInt 0), .int (Int32.ofInt 0), .ref 1], h)) rfl ?_
  obtain ⟨g101, r101⟩ := q0_76 F C hN
  obtain ⟨fs101, oo101⟩ := C.o
  refine yy_fin.cv (as := [.int (Int32.ofInt 0), .int (Int32.ofInt 0), .int (Int32.ofInt 0)]) rfl rfl rfl oo101 (Nat.le_of_ble_eq_true rfl) (Nat.le_of_ble_eq_true rfl) r101 ?_
  rintro v h101 ⟨rfl, C, x101⟩
  have hx101 := x101.1
  replace Y := Y.tr x101 (fun _ _ e => e)
  replace hY := Y.1
  refine yy_fin.steps (n := 1) (s' := (20, [some (.ref 1), some (.ref w), some (.ref 0), some (.int (Int32.ofInt fr)), some (.int (Int32.ofInt ((g0 541 0).toInt))), none, none, none, none, none, none, none, none, none, none, none, none, none, none, none, none, none, none, none, none, none, none, none, none, none, none], [.int (Int32.ofInt (-1)), .int (Int32.ofInt (-1))], h101)) rfl ?_
  refine yy_fin.ic rfl (fun cz => absurd (congrArg Int32.ofInt (rfl : (-1 : Int) = -1)) (y_cne cz)) (fun _ => ?_)
  refine yy_fin.steps (n := 5) (s' := (28, [some (.ref 1), some (.ref w), some (.ref 0), some (.int (Int32.ofInt fr)), some (.int (Int32.ofInt ((g0 541 0).toInt))), none, none, none, none, none, none, none, none, none, none, none, none, none, none, none, none, none, none, none, none, none, none, none, none, none, none], [.int (Int32.ofInt 0), .int (Int32.ofInt 0), .int (Int32.ofInt 0), .int (Int32.ofInt 0), .ref 1], h101)) rfl ?_
  obtain ⟨g102, r102⟩ := q0_85 F C hN
  obtain ⟨fs102, oo102⟩ := C.o
  refine yy_fin.cv (as := [.int (Int32.ofInt 0), .int (Int32.ofInt 0), .int (Int32.ofInt 0), .int (Int32.ofInt 0)]) rfl rfl rfl oo102 (Nat.le_of_ble_eq_true rfl) (Nat.le_of_ble_eq_true rfl) r102 ?_
  rintro v h102 ⟨rfl, C, x102⟩
  have hx102 := x102.1
  replace Y := Y.tr x102 (fun _ _ e => e)
  replace hY := Y.1
  refine yy_fin.steps (n := 1) (s' := (32, [some (.ref 1), some (.ref w), some (.ref 0), some (.int (Int32.ofInt fr)), some (.int (Int32.ofInt ((g0 541 0).toInt))), none, none, none, none, none, none, none, none, none, none, none, none, none, none, none, none, none, none, none, none, none, none, none, none, none, none], [.int (Int32.ofInt (-1)), .int (Int32.ofInt (-1))], h102)) rfl ?_
  refine yy_fin.ic rfl (fun cz => absurd (congrArg Int32.ofInt (rfl : (-1 : Int) = -1)) (y_cne cz)) (fun _ => ?_)
  refine yy_fin.steps (n := 3) (s' := (38, [some (.ref 1), some (.ref w), some (.ref 0), some (.int (Int32.ofInt fr)), some (.int (Int32.ofInt ((g0 541 0).toInt))), none, none, none, none, none, none, none, none, none, none, none, none, none, none, none, none, none, none, none, none, none, none, none, none, none, none], [.int (Int32.ofInt 0), .int (Int32.ofInt 0), .ref 1], h102)) rfl ?_
  obtain ⟨g103, r103⟩ := qi_131 F C (day := 0) (i := 0) (by omega) (by omega)
  obtain ⟨fs103, oo103⟩ := C.o
  refine yy_fin.cv (as := [.int (Int32.ofInt 0), .int (Int32.ofInt 0)]) rfl rfl rfl oo103 (Nat.le_of_ble_eq_true rfl) (Nat.le_of_ble_eq_true rfl) r103 ?_
  rintro v h103 ⟨rfl, C, x103⟩
  have hx103 := x103.1
  replace Y := Y.tr x103 (fun _ _ e => e)
  replace hY := Y.1
  refine yy_fin.steps (n := 1) (s' := (43, [some (.ref 1), some (.ref w), some (.ref 0), some (.int (Int32.ofInt fr)), some (.int (Int32.ofInt ((g0 541 0).toInt))), none, none, none, none, none, none, none, none, none, none, none, none, none, none, none, none, none, none, none, none, none, none, none, none, none, none], [.int (Int32.ofInt (-2)), .int (Int32.ofInt (s_131 (g0 541) 0 0))], h103)) rfl ?_
  refine yy_fin.ic rfl (fun cz => absurd (congrArg Int32.ofInt es) (y_cne cz)) (fun _ => ?_)
  refine yy_fin.steps (n := 3) (s' := (49, [some (.ref 1), some (.ref w), some (.ref 0), some (.int (Int32.ofInt fr)), some (.int (Int32.ofInt ((g0 541 0).toInt))), none, none, none, none, none, none, none, none, none, none, none, none, none, none, none, none, none, none, none, none, none, none, none, none, none, none], [.int (Int32.ofInt 0), .int (Int32.ofInt 0), .ref 1], h103)) rfl ?_
  obtain ⟨g104, r104⟩ := q0_122 F C hN
  obtain ⟨fs104, oo104⟩ := C.o
  refine yy_fin.cv (as := [.int (Int32.ofInt 0), .int (Int32.ofInt 0)]) rfl rfl rfl oo104 (Nat.le_of_ble_eq_true rfl) (Nat.le_of_ble_eq_true rfl) r104 ?_
  rintro v h104 ⟨rfl, C, x104⟩
  have hx104 := x104.1
  replace Y := Y.tr x104 (fun _ _ e => e)
  replace hY := Y.1
  refine yy_fin.steps (n := 1) (s' := (53, [some (.ref 1), some (.ref w), some (.ref 0), some (.int (Int32.ofInt fr)), some (.int (Int32.ofInt ((g0 541 0).toInt))), none, none, none, none, none, none, none, none, none, none, none, none, none, none, none, none, none, none, none, none, none, none, none, none, none, none], [.int (Int32.ofInt (-1)), .int (Int32.ofInt (-1))], h104)) rfl ?_
  refine yy_fin.ic rfl (fun cz => absurd (congrArg Int32.ofInt (rfl : (-1 : Int) = -1)) (y_cne cz)) (fun _ => ?_)
  refine yy_fin.steps (n := 5) (s' := (61, [some (.ref 1), some (.ref w), some (.ref 0), some (.int (Int32.ofInt fr)), some (.int (Int32.ofInt ((g0 541 0).toInt))), none, none, none, none, none, none, none, none, none, none, none, none, none, none, none, none, none, none, none, none, none, none, none, none, none, none], [.int (Int32.ofInt 0), .int (Int32.ofInt (-1)), .int (Int32.ofInt 0), .int (Int32.ofInt 0), .ref 1], h104)) rfl ?_
  obtain ⟨g105, r105⟩ := q0_102 F C hN
  obtain ⟨fs105, oo105⟩ := C.o
  refine yy_fin.cv (as := [.int (Int32.ofInt 0), .int (Int32.ofInt 0), .int (Int32.ofInt (-1)), .int (Int32.ofInt 0)]) rfl rfl rfl oo105 (Nat.le_of_ble_eq_true rfl) (Nat.le_of_ble_eq_true rfl) r105 ?_
  rintro v h105 ⟨rfl, C, x105⟩
  have hx105 := x105.1
  replace Y := Y.tr x105 (fun _ _ e => e)
  replace hY := Y.1
  refine yy_fin.steps (n := 1) (s' := (65, [some (.ref 1), some (.ref w), some (.ref 0), some (.int (Int32.ofInt fr)), some (.int (Int32.ofInt ((g0 541 0).toInt))), none, none, none, none, none, none, none, none, none, none, none, none, none, none, none, none, none, none, none, none, none, none, none, none, none, none], [.int (Int32.ofInt (-1)), .int (Int32.ofInt (-1))], h105)) rfl ?_
  refine yy_fin.ic rfl (fun cz => absurd (congrArg Int32.ofInt (rfl : (-1 : Int) = -1)) (y_cne cz)) (fun _ => ?_)
  refine yy_fin.steps (n := 4) (s' := (72, [some (.ref 1), some (.ref w), some (.ref 0), some (.int (Int32.ofInt fr)), some (.int (Int32.ofInt ((g0 541 0).toInt))), none, none, none, none, none, none, none, none, none, none, none, none, none, none, none, none, none, none, none, none, none, none, none, none, none, none], [.int (Int32.ofInt 0), .int (Int32.ofInt 0), .int (Int32.ofInt 0), .ref 1], h105)) rfl ?_
  obtain ⟨g106, r106⟩ := q0_135 F C hN
  obtain ⟨fs106, oo106⟩ := C.o
  refine yy_fin.cv (as := [.int (Int32.ofInt 0), .int (Int32.ofInt 0), .int (Int32.ofInt 0)]) rfl rfl rfl oo106 (Nat.le_of_ble_eq_true rfl) (Nat.le_of_ble_eq_true rfl) r106 ?_
  rintro v h106 ⟨rfl, C, x106⟩
  have hx106 := x106.1
  replace Y := Y.tr x106 (fun _ _ e => e)
  replace hY := Y.1
  refine yy_fin.steps (n := 1) (s' := (76, [some (.ref 1), some (.ref w), some (.ref 0), some (.int (Int32.ofInt fr)), some (.int (Int32.ofInt ((g0 541 0).toInt))), none, none, none, none, none, none, none, none, none, none, none, none, none, none, none, none, none, none, none, none, none, none, none, none, none, none], [.int (Int32.ofInt (-1)), .int (Int32.ofInt (-1))], h106)) rfl ?_
  refine yy_fin.ic rfl (fun cz => absurd (congrArg Int32.ofInt (rfl : (-1 : Int) = -1)) (y_cne cz)) (fun _ => ?_)
  refine yy_fin.steps (n := 2) (s' := (84, [some (.ref 1), some (.ref w), some (.ref 0), some (.int (Int32.ofInt fr)), some (.int (Int32.ofInt ((g0 541 0).toInt))), none, none, none, none, none, none, none, none, none, none, none, none, none, none, none, none, none, none, none, none, none, none, none, none, none, none], [.int (Int32.ofInt 1)], h106)) rfl ?_
  exact yy_fin.at (n := 1) rfl (kk _ _ C (Y.le (by omega) (by omega)))
end YD27
