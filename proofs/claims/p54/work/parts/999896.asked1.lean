/-! THE LAW ASKS (278): spread, what it asks last (printed by wip/p54/w24.py) -/
section YD24
variable {X : yy_X} {own : yOwn} {w t t2 L : Nat} {xs : Nat → Int32} {lst : List (yBell × List fl_T)} {g0 g : aa_G} {h h0 : zz_H} {day fr : Int} {φ : Option Value → zz_H → Prop}
theorem qn_131 (F : yCf own w lst g0) (C : yCx own w lst g0 h g) : ∃ g', ∀ {X : yy_X}, yy_fin X 131 (0, zz_in [.ref 1, .int (Int32.ofInt 36000), .int (Int32.ofInt 0)] (zz_nl 131), [], h) (fun v h' => v = some (.int (Int32.ofInt (-1))) ∧ yCx own w lst g0 h' g' ∧ yx (yAk w) 0 0 h h') := by
  obtain ⟨x, g', ⟨Y, W, eY, e⟩, r⟩ := yq_131 F C (Int32.ofInt 36000) (Int32.ofInt 0)
  have e2 : x = Int32.ofInt (-1) := by
    rw [e]
    unfold fn_245
    rw [if_pos (show fn_193 (Int32.ofInt 36000) = 0 from ti_193z.mpr (by decide))]
    rfl
  subst e2
  exact ⟨g', r⟩
theorem qn_90 {f n : Int} (F : yCf own w lst g0) (C : yCx own w lst g0 h g) (hf : -100 ≤ f ∧ f ≤ 100) (hn : 0 ≤ n ∧ n ≤ 100000) (ho : ¬ (f = 0 ∨ f = 1) ∨ 12 * (g0 541 1).toInt ≤ n) : ∃ g', ∀ {X : yy_X}, yy_fin X 90 (0, zz_in [.ref 1, .int (Int32.ofInt (t : Int)), .int (Int32.ofInt day), .int (Int32.ofInt f), .int (Int32.ofInt n)] (zz_nl 90), [], h) (fun v h' => v = some (.int (Int32.ofInt (-1))) ∧ yCx own w lst g0 h' g' ∧ yx (yAk w) 0 0 h h') := by
  obtain ⟨x, g', e, r⟩ := yq_90 F C (Int32.ofInt (t : Int)) (Int32.ofInt day) (Int32.ofInt f) (Int32.ofInt n)
  have e2 : x = Int32.ofInt (-1) := by
    rw [e]
    unfold sp_90
    rw [yi_T (a := f) (by omega), yi_T (a := n) (by omega), if_pos (by omega)]
    rfl
  subst e2
  exact ⟨g', r⟩
theorem qn_85 (F : yCf own w lst g0) (C : yCx own w lst g0 h g) : ∃ g', ∀ {X : yy_X}, yy_fin X 85 (0, zz_in [.ref 1, .int (Int32.ofInt (t : Int)), .int (Int32.ofInt day), .int (Int32.ofInt 86400), .int (Int32.ofInt 0)] (zz_nl 85), [], h) (fun v h' => v = some (.int (Int32.ofInt (-1))) ∧ yCx own w lst g0 h' g' ∧ yx (yAk w) 0 0 h h') := by
  obtain ⟨x, g', e, r⟩ := yq_85 F C (Int32.ofInt (t : Int)) (Int32.ofInt day) (Int32.ofInt 86400) (Int32.ofInt 0)
  have e2 : x = Int32.ofInt (-1) := by
    rw [e]
    unfold sp_12
    rw [if_pos (Or.inr (Or.inr (Or.inl (by decide))))]
    rfl
  subst e2
  exact ⟨g', r⟩
theorem ya_l (F : yCf own w lst g0) (hd : 0 ≤ day ∧ day ≤ 35999) {A E : Nat} {i27 X0 Y0 : Int} {x5 x6 x7 x10 x12 x13 x14 x15 x16 x17 x18 x19 x20 x21 x22 x23 x24 x25 x26 : Option Value} (hR : h0.1.1 + A + 100 < yy_B) (kk : ∀ h' i30, yCx own w lst g0 h' g → yx (yAk w) A E h0 h' → yy_fin X 278 (1173, [some (.ref 1), some (.ref w), some (.ref 0), some (.int (Int32.ofInt fr)), some (.int (Int32.ofInt ((g0 541 0).toInt))), x5, x6, x7, some (.int (Int32.ofInt (t : Int))), some (.int (Int32.ofInt (t2 : Int))), x10, some (.int (Int32.ofInt day)), x12, x13, x14, x15, x16, x17, x18, x19, x20, x21, x22, x23, x24, x25, x26, some (.int (Int32.ofInt i27)), some (.int (Int32.ofInt X0)), some (.int (Int32.ofInt Y0)), some (.int (Int32.ofInt i30))], [], h') φ) : ∀ (n k : Nat) (h : zz_H) (x y : Int) (a e : Nat), (k : Int) + n = (g0 541 0).toInt → fd_i (sd_f (g0 541) day) k n (x, y) = (X0, Y0) → (x = -2 ∨ (0 ≤ x ∧ x < k)) → (y = -2 ∨ (0 ≤ y ∧ y < k)) → yCx own w lst g0 h g → yx (yAk w) a e h0 h → a + 15 * n ≤ A → e + 30 * n ≤ E → yy_fin X 278 (1080, [some (.ref 1), some (.ref w), some (.ref 0), some (.int (Int32.ofInt fr)), some (.int (Int32.ofInt ((g0 541 0).toInt))), x5, x6, x7, some (.int (Int32.ofInt (t : Int))), some (.int (Int32.ofInt (t2 : Int))), x10, some (.int (Int32.ofInt day)), x12, x13, x14, x15, x16, x17, x18, x19, x20, x21, x22, x23, x24, x25, x26, some (.int (Int32.ofInt i27)), some (.int (Int32.ofInt x)), some (.int (Int32.ofInt y)), some (.int (Int32.ofInt (k : Int)))], [], h) φ
  | 0, k, h, x, y, a, e, hn, eF, hx, hy, C, Y, hA, hE => by
    have n4 := F.2.2.2.1
    have hq := F.2.2.2.2.1
    have hY := Y.1
    have hg := C.2.1.2
    have l8 := F.2.2.1.2.1
    obtain ⟨rfl, rfl⟩ := Prod.mk.inj (show (x, y) = (X0, Y0) from eF)
    refine yy_fin.steps (n := 2) (s' := (1084, [some (.ref 1), some (.ref w), some (.ref 0), some (.int (Int32.ofInt fr)), some (.int (Int32.ofInt ((g0 541 0).toInt))), x5, x6, x7, some (.int (Int32.ofInt (t : Int))), some (.int (Int32.ofInt (t2 : Int))), x10, some (.int (Int32.ofInt day)), x12, x13, x14, x15, x16, x17, x18, x19, x20, x21, x22, x23, x24, x25, x26, some (.int (Int32.ofInt i27)), some (.int (Int32.ofInt x)), some (.int (Int32.ofInt y)), some (.int (Int32.ofInt (k : Int)))], [.int (Int32.ofInt ((g0 541 0).toInt)), .int (Int32.ofInt (k : Int))], h)) rfl ?_
    refine yy_fin.ic rfl (fun cq => ?_) (fun cq => absurd ((yi_c_ge (a := (k : Int)) (b := ((g0 541 0).toInt)) (by omega) (by omega)).mpr (by omega)) cq)
    have cq := (yi_c_ge (a := (k : Int)) (b := ((g0 541 0).toInt)) (by omega) (by omega)).mp cq
    exact kk _ _ C (Y.le (by omega) (by omega))
  | n + 1, k, h, x, y, a, e, hn, eF, hx, hy, C, Y, hA, hE => by
    have n4 := F.2.2.2.1
    have hq := F.2.2.2.2.1
    have hY := Y.1
    have hg := C.2.1.2
    have l8 := F.2.2.1.2.1
    have hk : (k : Int) < (g0 541 0).toInt := by omega
    have lk := s_l_b (d := day) F.2.2.2 hk
    have eF2 : fd_i (sd_f (g0 541) day) (k + 1) n ((sd_f (g0 541) day) k (x, y)) = (X0, Y0) := eF
    refine yy_fin.steps (n := 2) (s' := (1084, [some (.ref 1), some (.ref w), some (.ref 0), some (.int (Int32.ofInt fr)), some (.int (Int32.ofInt ((g0 541 0).toInt))), x5, x6, x7, some (.int (Int32.ofInt (t : Int))), some (.int (Int32.ofInt (t2 : Int))), x10, some (.int (Int32.ofInt day)), x12, x13, x14, x15, x16, x17, x18, x19, x20, x21, x22, x23, x24, x25, x26, some (.int (Int32.ofInt i27)), some (.int (Int32.ofInt x)), some (.int (Int32.ofInt y)), some (.int (Int32.ofInt (k : Int)))], [.int (Int32.ofInt ((g0 541 0).toInt)), .int (Int32.ofInt (k : Int))], h)) rfl ?_
    refine yy_fin.ic rfl (fun cq => absurd ((yi_c_ge (a := (k : Int)) (b := ((g0 541 0).toInt)) (by omega) (by omega)).mp cq) (by omega)) (fun cq => ?_)
    have cq := mt (yi_c_ge (a := (k : Int)) (b := ((g0 541 0).toInt)) (by omega) (by omega)).mpr cq
    refine yy_fin.steps (n := 3) (s' := (1092, [some (.ref 1), some (.ref w), some (.ref 0), some (.int (Int32.ofInt fr)), some (.int (Int32.ofInt ((g0 541 0).toInt))), x5, x6, x7, some (.int (Int32.ofInt (t : Int))), some (.int (Int32.ofInt (t2 : Int))), x10, some (.int (Int32.ofInt day)), x12, x13, x14, x15, x16, x17, x18, x19, x20, x21, x22, x23, x24, x25, x26, some (.int (Int32.ofInt i27)), some (.int (Int32.ofInt x)), some (.int (Int32.ofInt y)), some (.int (Int32.ofInt (k : Int)))], [.int (Int32.ofInt day), .int (Int32.ofInt (k : Int)), .ref w], h)) rfl ?_
    obtain ⟨fw101, oW101⟩ := C.ow
    refine yy_fin.cv (as := [.int (Int32.ofInt (k : Int)), .int (Int32.ofInt day)]) rfl rfl rfl oW101 (Nat.le_of_ble_eq_true rfl) (Nat.le_of_ble_eq_true rfl) (yc_light2 F C hk (d := day) (by omega) (by omega)) ?_
    rintro v h101 ⟨rfl, C, x101⟩
    have hx101 := x101.1
    replace Y := Y.tr x101 (fun _ _ e => e)
    replace hY := Y.1
    refine yy_fin.if rfl (fun c102 => ?_) (fun c102 => ?_)
    · have c102 := (yi_z_ge (a := s_l (g0 541) k day) (by omega)).mp c102
      refine yy_fin.steps (n := 1) (s' := (1103, [some (.ref 1), some (.ref w), some (.ref 0), some (.int (Int32.ofInt fr)), some (.int (Int32.ofInt ((g0 541 0).toInt))), x5, x6, x7, some (.int (Int32.ofInt (t : Int))), some (.int (Int32.ofInt (t2 : Int))), x10, some (.int (Int32.ofInt day)), x12, x13, x14, x15, x16, x17, x18, x19, x20, x21, x22, x23, x24, x25, x26, some (.int (Int32.ofInt i27)), some (.int (Int32.ofInt x)), some (.int (Int32.ofInt y)), some (.int (Int32.ofInt (k : Int)))], [.int (Int32.ofInt x)], h101)) rfl ?_
      suffices J103 : ∀ (h' : zz_H) (p103 : Int), p103 = (if (x = -2 ∨ s_l (g0 541) x.toNat day < s_l (g0 541) k day) then (k : Int) else x) → yCx own w lst g0 h' g → yx (yAk w) (a + 9) (e + 18) h0 h' → yy_fin X 278 (1132, [some (.ref 1), some (.ref w), some (.ref 0), some (.int (Int32.ofInt fr)), some (.int (Int32.ofInt ((g0 541 0).toInt))), x5, x6, x7, some (.int (Int32.ofInt (t : Int))), some (.int (Int32.ofInt (t2 : Int))), x10, some (.int (Int32.ofInt day)), x12, x13, x14, x15, x16, x17, x18, x19, x20, x21, x22, x23, x24, x25, x26, some (.int (Int32.ofInt i27)), some (.int (Int32.ofInt x)), some (.int (Int32.ofInt y)), some (.int (Int32.ofInt (k : Int)))], [.int (Int32.ofInt p103)], h') φ by
        refine yy_fin.if rfl (fun c104 => ?_) (fun c104 => ?_)
        · have c104 := (yi_z_lt (a := x) (by omega)).mp c104
          refine yy_fin.steps (n := 2) (s' := (1132, [some (.ref 1), some (.ref w), some (.ref 0), some (.int (Int32.ofInt fr)), some (.int (Int32.ofInt ((g0 541 0).toInt))), x5, x6, x7, some (.int (Int32.ofInt (t : Int))), some (.int (Int32.ofInt (t2 : Int))), x10, some (.int (Int32.ofInt day)), x12, x13, x14, x15, x16, x17, x18, x19, x20, x21, x22, x23, x24, x25, x26, some (.int (Int32.ofInt i27)), some (.int (Int32.ofInt x)), some (.int (Int32.ofInt y)), some (.int (Int32.ofInt (k : Int)))], [.int (Int32.ofInt (k : Int))], h101)) rfl ?_
          exact J103 _ ((k : Int)) (by rw [if_pos (Or.inl (by omega))]) C (Y.le (by omega) (by omega))
        · have c104 := mt (yi_z_lt (a := x) (by omega)).mpr c104
          obtain ⟨m, em⟩ : ∃ m : Nat, x = m := ⟨x.toNat, by omega⟩
          have hm : (m : Int) < (g0 541 0).toInt := by omega
          have lm := s_l_b (d := day) F.2.2.2 hm
          have et : x.toNat = m := by omega
          refine yy_fin.steps (n := 3) (s' := (1111, [some (.ref 1), some (.ref w), some (.ref 0), some (.int (Int32.ofInt fr)), some (.int (Int32.ofInt ((g0 541 0).toInt))), x5, x6, x7, some (.int (Int32.ofInt (t : Int))), some (.int (Int32.ofInt (t2 : Int))), x10, some (.int (Int32.ofInt day)), x12, x13, x14, x15, x16, x17, x18, x19, x20, x21, x22, x23, x24, x25, x26, some (.int (Int32.ofInt i27)), some (.int (Int32.ofInt x)), some (.int (Int32.ofInt y)), some (.int (Int32.ofInt (k : Int)))], [.int (Int32.ofInt day), .int (Int32.ofInt (k : Int)), .ref w], h101)) rfl ?_
          obtain ⟨fw105, oW105⟩ := C.ow
          refine yy_fin.cv (as := [.int (Int32.ofInt (k : Int)), .int (Int32.ofInt day)]) rfl rfl rfl oW105 (Nat.le_of_ble_eq_true rfl) (Nat.le_of_ble_eq_true rfl) (yc_light2 F C hk (d := day) (by omega) (by omega)) ?_
          rintro v h105 ⟨rfl, C, x105⟩
          have hx105 := x105.1
          replace Y := Y.tr x105 (fun _ _ e => e)
          replace hY := Y.1
          refine yy_fin.steps (n := 3) (s' := (1119, [some (.ref 1), some (.ref w), some (.ref 0), some (.int (Int32.ofInt fr)), some (.int (Int32.ofInt ((g0 541 0).toInt))), x5, x6, x7, some (.int (Int32.ofInt (t : Int))), some (.int (Int32.ofInt (t2 : Int))), x10, some (.int (Int32.ofInt day)), x12, x13, x14, x15, x16, x17, x18, x19, x20, x21, x22, x23, x24, x25, x26, some (.int (Int32.ofInt i27)), some (.int (Int32.ofInt x)), some (.int (Int32.ofInt y)), some (.int (Int32.ofInt (k : Int)))], [.int (Int32.ofInt day), .int (Int32.ofInt x), .ref w, .int (Int32.ofInt (s_l (g0 541) k day))], h105)) rfl ?_
          have yL106 := yc_light2 (X := X) F C hm (d := day) (by omega) (by omega)
          rw [← em] at yL106
          obtain ⟨fw107, oW107⟩ := C.ow
          refine yy_fin.cv (as := [.int (Int32.ofInt x), .int (Int32.ofInt day)]) rfl rfl rfl oW107 (Nat.le_of_ble_eq_true rfl) (Nat.le_of_ble_eq_true rfl) (yL106) ?_
          rintro v h107 ⟨rfl, C, x107⟩
          have hx107 := x107.1
          replace Y := Y.tr x107 (fun _ _ e => e)
          replace hY := Y.1
          refine yy_fin.ic rfl (fun c108 => ?_) (fun c108 => ?_)
          · have c108 := (yi_c_le (a := s_l (g0 541) k day) (b := s_l (g0 541) m day) (by omega) (by omega)).mp c108
            refine yy_fin.steps (n := 1) (s' := (1132, [some (.ref 1), some (.ref w), some (.ref 0), some (.int (Int32.ofInt fr)), some (.int (Int32.ofInt ((g0 541 0).toInt))), x5, x6, x7, some (.int (Int32.ofInt (t : Int))), some (.int (Int32.ofInt (t2 : Int))), x10, some (.int (Int32.ofInt day)), x12, x13, x14, x15, x16, x17, x18, x19, x20, x21, x22, x23, x24, x25, x26, some (.int (Int32.ofInt i27)), some (.int (Int32.ofInt x)), some (.int (Int32.ofInt y)), some (.int (Int32.ofInt (k : Int)))], [.int (Int32.ofInt x)], h107)) rfl ?_
            exact J103 _ (x) (by rw [if_neg (show ¬ (x = -2 ∨ s_l (g0 541) x.toNat day < s_l (g0 541) k day) by rw [et]; omega), em]) C (Y.le (by omega) (by omega))
          · have c108 := mt (yi_c_le (a := s_l (g0 541) k day) (b := s_l (g0 541) m day) (by omega) (by omega)).mpr c108
            refine yy_fin.steps (n := 2) (s' := (1132, [some (.ref 1), some (.ref w), some (.ref 0), some (.int (Int32.ofInt fr)), some (.int (Int32.ofInt ((g0 541 0).toInt))), x5, x6, x7, some (.int (Int32.ofInt (t : Int))), some (.int (Int32.ofInt (t2 : Int))), x10, some (.int (Int32.ofInt day)), x12, x13, x14, x15, x16, x17, x18, x19, x20, x21, x22, x23, x24, x25, x26, some (.int (Int32.ofInt i27)), some (.int (Int32.ofInt x)), some (.int (Int32.ofInt y)), some (.int (Int32.ofInt (k : Int)))], [.int (Int32.ofInt (k : Int))], h107)) rfl ?_
            exact J103 _ ((k : Int)) (by rw [if_pos (Or.inr (by rw [et]; omega))]) C (Y.le (by omega) (by omega))
      intro h103 p103 ep103 C Y
      replace hY := Y.1
      refine yy_fin.steps (n := 2) (s' := (1136, [some (.ref 1), some (.ref w), some (.ref 0), some (.int (Int32.ofInt fr)), some (.int (Int32.ofInt ((g0 541 0).toInt))), x5, x6, x7, some (.int (Int32.ofInt (t : Int))), some (.int (Int32.ofInt (t2 : Int))), x10, some (.int (Int32.ofInt day)), x12, x13, x14, x15, x16, x17, x18, x19, x20, x21, x22, x23, x24, x25, x26, some (.int (Int32.ofInt i27)), some (.int (Int32.ofInt p103)), some (.int (Int32.ofInt y)), some (.int (Int32.ofInt (k : Int)))], [.int (Int32.ofInt y)], h103)) rfl ?_
      suffices J109 : ∀ (h' : zz_H) (p109 : Int), p109 = (if (y = -2 ∨ s_l (g0 541) k day < s_l (g0 541) y.toNat day) then (k : Int) else y) → yCx own w lst g0 h' g → yx (yAk w) (a + 15) (e + 30) h0 h' → yy_fin X 278 (1165, [some (.ref 1), some (.ref w), some (.ref 0), some (.int (Int32.ofInt fr)), some (.int (Int32.ofInt ((g0 541 0).toInt))), x5, x6, x7, some (.int (Int32.ofInt (t : Int))), some (.int (Int32.ofInt (t2 : Int))), x10, some (.int (Int32.ofInt day)), x12, x13, x14, x15, x16, x17, x18, x19, x20, x21, x22, x23, x24, x25, x26, some (.int (Int32.ofInt i27)), some (.int (Int32.ofInt p103)), some (.int (Int32.ofInt y)), some (.int (Int32.ofInt (k : Int)))], [.int (Int32.ofInt p109)], h') φ by
        refine yy_fin.if rfl (fun c110 => ?_) (fun c110 => ?_)
        · have c110 := (yi_z_lt (a := y) (by omega)).mp c110
          refine yy_fin.steps (n := 2) (s' := (1165, [some (.ref 1), some (.ref w), some (.ref 0), some (.int (Int32.ofInt fr)), some (.int (Int32.ofInt ((g0 541 0).toInt))), x5, x6, x7, some (.int (Int32.ofInt (t : Int))), some (.int (Int32.ofInt (t2 : Int))), x10, some (.int (Int32.ofInt day)), x12, x13, x14, x15, x16, x17, x18, x19, x20, x21, x22, x23, x24, x25, x26, some (.int (Int32.ofInt i27)), some (.int (Int32.ofInt p103)), some (.int (Int32.ofInt y)), some (.int (Int32.ofInt (k : Int)))], [.int (Int32.ofInt (k : Int))], h103)) rfl ?_
          exact J109 _ ((k : Int)) (by rw [if_pos (Or.inl (by omega))]) C (Y.le (by omega) (by omega))
        · have c110 := mt (yi_z_lt (a := y) (by omega)).mpr c110
          obtain ⟨m, em⟩ : ∃ m : Nat, y = m := ⟨y.toNat, by omega⟩
          have hm : (m : Int) < (g0 541 0).toInt := by omega
          have lm := s_l_b (d := day) F.2.2.2 hm
          have et : y.toNat = m := by omega
          refine yy_fin.steps (n := 3) (s' := (1144, [some (.ref 1), some (.ref w), some (.ref 0), some (.int (Int32.ofInt fr)), some (.int (Int32.ofInt ((g0 541 0).toInt))), x5, x6, x7, some (.int (Int32.ofInt (t : Int))), some (.int (Int32.ofInt (t2 : Int))), x10, some (.int (Int32.ofInt day)), x12, x13, x14, x15, x16, x17, x18, x19, x20, x21, x22, x23, x24, x25, x26, some (.int (Int32.ofInt i27)), some (.int (Int32.ofInt p103)), some (.int (Int32.ofInt y)), some (.int (Int32.ofInt (k : Int)))], [.int (Int32.ofInt day), .int (Int32.ofInt (k : Int)), .ref w], h103)) rfl ?_
          obtain ⟨fw111, oW111⟩ := C.ow
          refine yy_fin.cv (as := [.int (Int32.ofInt (k : Int)), .int (Int32.ofInt day)]) rfl rfl rfl oW111 (Nat.le_of_ble_eq_true rfl) (Nat.le_of_ble_eq_true rfl) (yc_light2 F C hk (d := day) (by omega) (by omega)) ?_
          rintro v h111 ⟨rfl, C, x111⟩
          have hx111 := x111.1
          replace Y := Y.tr x111 (fun _ _ e => e)
          replace hY := Y.1
          refine yy_fin.steps (n := 3) (s' := (1152, [some (.ref 1), some (.ref w), some (.ref 0), some (.int (Int32.ofInt fr)), some (.int (Int32.ofInt ((g0 541 0).toInt))), x5, x6, x7, some (.int (Int32.ofInt (t : Int))), some (.int (Int32.ofInt (t2 : Int))), x10, some (.int (Int32.ofInt day)), x12, x13, x14, x15, x16, x17, x18, x19, x20, x21, x22, x23, x24, x25, x26, some (.int (Int32.ofInt i27)), some (.int (Int32.ofInt p103)), some (.int (Int32.ofInt y)), some (.int (Int32.ofInt (k : Int)))], [.int (Int32.ofInt day), .int (Int32.ofInt y), .ref w, .int (Int32.ofInt (s_l (g0 541) k day))], h111)) rfl ?_
          have yL112 := yc_light2 (X := X) F C hm (d := day) (by omega) (by omega)
          rw [← em] at yL112
          obtain ⟨fw113, oW113⟩ := C.ow
          refine yy_fin.cv (as := [.int (Int32.ofInt y), .int (Int32.ofInt day)]) rfl rfl rfl oW113 (Nat.le_of_ble_eq_true rfl) (Nat.le_of_ble_eq_true rfl) (yL112) ?_
          rintro v h113 ⟨rfl, C, x113⟩
          have hx113 := x113.1
          replace Y := Y.tr x113 (fun _ _ e => e)
          replace hY := Y.1
          refine yy_fin.ic rfl (fun c114 => ?_) (fun c114 => ?_)
          · have c114 := (yi_c_ge (a := s_l (g0 541) k day) (b := s_l (g0 541) m day) (by omega) (by omega)).mp c114
            refine yy_fin.steps (n := 1) (s' := (1165, [some (.ref 1), some (.ref w), some (.ref 0), some (.int (Int32.ofInt fr)), some (.int (Int32.ofInt ((g0 541 0).toInt))), x5, x6, x7, some (.int (Int32.ofInt (t : Int))), some (.int (Int32.ofInt (t2 : Int))), x10, some (.int (Int32.ofInt day)), x12, x13, x14, x15, x16, x17, x18, x19, x20, x21, x22, x23, x24, x25, x26, some (.int (Int32.ofInt i27)), some (.int (Int32.ofInt p103)), some (.int (Int32.ofInt y)), some (.int (Int32.ofInt (k : Int)))], [.int (Int32.ofInt y)], h113)) rfl ?_
            exact J109 _ (y) (by rw [if_neg (show ¬ (y = -2 ∨ s_l (g0 541) k day < s_l (g0 541) y.toNat day) by rw [et]; omega), em]) C (Y.le (by omega) (by omega))
          · have c114 := mt (yi_c_ge (a := s_l (g0 541) k day) (b := s_l (g0 541) m day) (by omega) (by omega)).mpr c114
            refine yy_fin.steps (n := 2) (s' := (1165, [some (.ref 1), some (.ref w), some (.ref 0), some (.int (Int32.ofInt fr)), some (.int (Int32.ofInt ((g0 541 0).toInt))), x5, x6, x7, some (.int (Int32.ofInt (t : Int))), some (.int (Int32.ofInt (t2 : Int))), x10, some (.int (Int32.ofInt day)), x12, x13, x14, x15, x16, x17, x18, x19, x20, x21, x22, x23, x24, x25, x26, some (.int (Int32.ofInt i27)), some (.int (Int32.ofInt p103)), some (.int (Int32.ofInt y)), some (.int (Int32.ofInt (k : Int)))], [.int (Int32.ofInt (k : Int))], h113)) rfl ?_
            exact J109 _ ((k : Int)) (by rw [if_pos (Or.inr (by rw [et]; omega))]) C (Y.le (by omega) (by omega))
      intro h109 p109 ep109 C Y
      replace hY := Y.1
      refine yy_fin.steps (n := 3) (s' := (1080, [some (.ref 1), some (.ref w), some (.ref 0), some (.int (Int32.ofInt fr)), some (.int (Int32.ofInt ((g0 541 0).toInt))), x5, x6, x7, some (.int (Int32.ofInt (t : Int))), some (.int (Int32.ofInt (t2 : Int))), x10, some (.int (Int32.ofInt day)), x12, x13, x14, x15, x16, x17, x18, x19, x20, x21, x22, x23, x24, x25, x26, some (.int (Int32.ofInt i27)), some (.int (Int32.ofInt p103)), some (.int (Int32.ofInt p109)), some (.int ((Int32.ofInt (k : Int)) + (Int32.ofInt 1)))], [], h109)) rfl ?_
      rw [yi_add (k : Int) 1]
      rw [show (k : Int) + 1 = ((k + 1 : Nat) : Int) by omega]
      have es : (sd_f (g0 541) day) k (x, y) = (p103, p109) := by unfold sd_f; rw [if_neg (show ¬ s_l (g0 541) k day = -1 by omega), ep103, ep109]
      have bx : p103 = -2 ∨ (0 ≤ p103 ∧ p103 < ((k + 1 : Nat) : Int)) := by rw [ep103]; split <;> omega
      have by_ : p109 = -2 ∨ (0 ≤ p109 ∧ p109 < ((k + 1 : Nat) : Int)) := by rw [ep109]; split <;> omega
      rw [es] at eF2
      exact ya_l F hd hR kk n (k + 1) _ _ _ _ _ (by omega) eF2 bx by_ C Y (by omega) (by omega)
    · have c102 := mt (yi_z_ge (a := s_l (g0 541) k day) (by omega)).mpr c102
      refine yy_fin.steps (n := 3) (s' := (1080, [some (.ref 1), some (.ref w), some (.ref 0), some (.int (Int32.ofInt fr)), some (.int (Int32.ofInt ((g0 541 0).toInt))), x5, x6, x7, some (.int (Int32.ofInt (t : Int))), some (.int (Int32.ofInt (t2 : Int))), x10, some (.int (Int32.ofInt day)), x12, x13, x14, x15, x16, x17, x18, x19, x20, x21, x22, x23, x24, x25, x26, some (.int (Int32.ofInt i27)), some (.int (Int32.ofInt x)), some (.int (Int32.ofInt y)), some (.int ((Int32.ofInt (k : Int)) + (Int32.ofInt 1)))], [], h101)) rfl ?_
      rw [yi_add (k : Int) 1]
      rw [show (k : Int) + 1 = ((k + 1 : Nat) : Int) by omega]
      have es : (sd_f (g0 541) day) k (x, y) = (x, y) := by unfold sd_f; rw [if_pos (by omega)]
      rw [es] at eF2
      exact ya_l F hd hR kk n (k + 1) _ _ _ _ _ (by omega) eF2 (by omega) (by omega) C Y (by omega) (by omega)
end YD24
