/-! THE LAW ASKS (278): from spread to its end (printed by wip/p54/w25.py) -/
theorem sd_1 {a : Nat → Int32} {day : Int} {k : Nat} {x y : Int} (h : (x = -2 ∧ y = -2) ∨ ((0 ≤ x ∧ x < k) ∧ (0 ≤ y ∧ y < k))) : ((sd_f a day k (x, y)).1 = -2 ∧ (sd_f a day k (x, y)).2 = -2) ∨ ((0 ≤ (sd_f a day k (x, y)).1 ∧ (sd_f a day k (x, y)).1 < ((k + 1 : Nat) : Int)) ∧ (0 ≤ (sd_f a day k (x, y)).2 ∧ (sd_f a day k (x, y)).2 < ((k + 1 : Nat) : Int))) := by
  unfold sd_f
  by_cases c : s_l a k day = -1
  · rw [if_pos c]
    dsimp only
    omega
  · rw [if_neg c]
    dsimp only
    by_cases c1 : x = -2 ∨ s_l a x.toNat day < s_l a k day
    · rw [if_pos c1]
      by_cases c2 : y = -2 ∨ s_l a k day < s_l a y.toNat day
      · rw [if_pos c2]
        omega
      · rw [if_neg c2]
        omega
    · rw [if_neg c1]
      by_cases c2 : y = -2 ∨ s_l a k day < s_l a y.toNat day
      · rw [if_pos c2]
        omega
      · rw [if_neg c2]
        omega
theorem sd_b {a : Nat → Int32} {day : Int} : ∀ (n k : Nat) (x y : Int), ((x = -2 ∧ y = -2) ∨ ((0 ≤ x ∧ x < k) ∧ (0 ≤ y ∧ y < k))) → ((fd_i (sd_f a day) k n (x, y)).1 = -2 ∧ (fd_i (sd_f a day) k n (x, y)).2 = -2) ∨ ((0 ≤ (fd_i (sd_f a day) k n (x, y)).1 ∧ (fd_i (sd_f a day) k n (x, y)).1 < ((k + n : Nat) : Int)) ∧ (0 ≤ (fd_i (sd_f a day) k n (x, y)).2 ∧ (fd_i (sd_f a day) k n (x, y)).2 < ((k + n : Nat) : Int)))
  | 0, k, x, y, h => h
  | n + 1, k, x, y, h => by
    have ih := sd_b (a := a) (day := day) n (k + 1) (sd_f a day k (x, y)).1 (sd_f a day k (x, y)).2 (sd_1 h)
    rw [show k + (n + 1) = k + 1 + n by omega]
    exact ih
section YD25
variable {X : yy_X} {own : yOwn} {w t t2 L : Nat} {xs : Nat → Int32} {lst : List (yBell × List fl_T)} {g0 g : aa_G} {h h0 : zz_H} {day fr : Int} {φ : Option Value → zz_H → Prop}
theorem ya_b (F : yCf own w lst g0) (hd : 0 ≤ day ∧ day ≤ 35999) {a e : Nat} {i27 : Int} {x5 x6 x7 x10 x12 x13 x14 x15 x16 x17 x18 x19 x20 x21 x22 x23 x24 x25 x26 x28 x29 x30 : Option Value} (C : yCx own w lst g0 h g) (Y : yx (yAk w) a e h0 h) (hR : h0.1.1 + a + 300 < yy_B) (kk : ∀ h' g', yCx own w lst g0 h' g' → yx (yAk w) (a + 70) (e + 140) h0 h' → φ (some (.int (Int32.ofInt 1))) h') : yy_fin X 278 (1069, [some (.ref 1), some (.ref w), some (.ref 0), some (.int (Int32.ofInt fr)), some (.int (Int32.ofInt ((g0 541 0).toInt))), x5, x6, x7, some (.int (Int32.ofInt (t : Int))), some (.int (Int32.ofInt (t2 : Int))), x10, some (.int (Int32.ofInt day)), x12, x13, x14, x15, x16, x17, x18, x19, x20, x21, x22, x23, x24, x25, x26, some (.int (Int32.ofInt i27)), x28, x29, x30], [], h) φ := by
  have n4 := F.2.2.2.1
  have hq := F.2.2.2.2.1
  have hY := Y.1
  have hg := C.2.1.2
  have l8 := F.2.2.1.2.1
  have hN : (((g0 541 0).toInt.toNat : Nat) : Int) = (g0 541 0).toInt := by omega
  have sb := sd_b (a := g0 541) (day := day) (g0 541 0).toInt.toNat 0 (-2) (-2) (Or.inl ⟨rfl, rfl⟩)
  rw [Nat.zero_add, hN] at sb
  refine yy_fin.steps (n := 6) (s' := (1080, [some (.ref 1), some (.ref w), some (.ref 0), some (.int (Int32.ofInt fr)), some (.int (Int32.ofInt ((g0 541 0).toInt))), x5, x6, x7, some (.int (Int32.ofInt (t : Int))), some (.int (Int32.ofInt (t2 : Int))), x10, some (.int (Int32.ofInt day)), x12, x13, x14, x15, x16, x17, x18, x19, x20, x21, x22, x23, x24, x25, x26, some (.int (Int32.ofInt i27)), some (.int (Int32.ofInt (-2))), some (.int (Int32.ofInt (-2))), some (.int (Int32.ofInt 0))], [], h)) rfl ?_
  refine ya_l F hd (A := a + 60) (E := e + 120) (X0 := (fd_i (sd_f (g0 541) day) 0 (g0 541 0).toInt.toNat (-2, -2)).1) (Y0 := (fd_i (sd_f (g0 541) day) 0 (g0 541 0).toInt.toNat (-2, -2)).2) (y_rm hR (by decide)) (fun h7 i30 C Y => ?_) (g0 541 0).toInt.toNat 0 _ (-2) (-2) _ _ (by omega) rfl (Or.inl rfl) (Or.inl rfl) C Y (by omega) (by omega)
  replace hY := Y.1
  have es1 : s_131 (g0 541) day 0 = (fd_i (sd_f (g0 541) day) 0 (g0 541 0).toInt.toNat (-2, -2)).1 := rfl
  have es2 : s_131 (g0 541) day 1 = (fd_i (sd_f (g0 541) day) 0 (g0 541 0).toInt.toNat (-2, -2)).2 := rfl
  have es3 : s_131 (g0 541) day 2 = if (fd_i (sd_f (g0 541) day) 0 (g0 541 0).toInt.toNat (-2, -2)).1 = -2 then -2 else s_l (g0 541) (fd_i (sd_f (g0 541) day) 0 (g0 541 0).toInt.toNat (-2, -2)).1.toNat day - s_l (g0 541) (fd_i (sd_f (g0 541) day) 0 (g0 541 0).toInt.toNat (-2, -2)).2.toNat day := rfl
  generalize (fd_i (sd_f (g0 541) day) 0 (g0 541 0).toInt.toNat (-2, -2)) = FF at *
  obtain ⟨X0, Y0⟩ := FF
  dsimp only at *
  refine yy_fin.steps (n := 3) (s' := (1177, [some (.ref 1), some (.ref w), some (.ref 0), some (.int (Int32.ofInt fr)), some (.int (Int32.ofInt ((g0 541 0).toInt))), x5, x6, x7, some (.int (Int32.ofInt (t : Int))), some (.int (Int32.ofInt (t2 : Int))), x10, some (.int (Int32.ofInt day)), x12, x13, x14, x15, x16, x17, x18, x19, x20, x21, x22, x23, x24, x25, x26, some (.int (Int32.ofInt i27)), some (.int (Int32.ofInt X0)), some (.int (Int32.ofInt Y0)), some (.int (Int32.ofInt i30))], [.int (Int32.ofInt 0), .int (Int32.ofInt day), .ref 1], h7)) rfl ?_
  obtain ⟨g101, r101⟩ := qi_131 F C hd (i := 0) (by omega)
  obtain ⟨fs101, oo101⟩ := C.o
  refine yy_fin.cv (as := [.int (Int32.ofInt day), .int (Int32.ofInt 0)]) rfl rfl rfl oo101 (Nat.le_of_ble_eq_true rfl) (Nat.le_of_ble_eq_true rfl) r101 ?_
  rintro v h101 ⟨rfl, C, x101⟩
  have hx101 := x101.1
  replace Y := Y.tr x101 (fun _ _ e => e)
  replace hY := Y.1
  refine yy_fin.steps (n := 1) (s' := (1182, [some (.ref 1), some (.ref w), some (.ref 0), some (.int (Int32.ofInt fr)), some (.int (Int32.ofInt ((g0 541 0).toInt))), x5, x6, x7, some (.int (Int32.ofInt (t : Int))), some (.int (Int32.ofInt (t2 : Int))), x10, some (.int (Int32.ofInt day)), x12, x13, x14, x15, x16, x17, x18, x19, x20, x21, x22, x23, x24, x25, x26, some (.int (Int32.ofInt i27)), some (.int (Int32.ofInt X0)), some (.int (Int32.ofInt Y0)), some (.int (Int32.ofInt i30))], [.int (Int32.ofInt X0), .int (Int32.ofInt (s_131 (g0 541) day 0))], h101)) rfl ?_
  refine yy_fin.ic rfl (fun cz => absurd (congrArg Int32.ofInt es1) (y_cne cz)) (fun _ => ?_)
  refine yy_fin.steps (n := 3) (s' := (1189, [some (.ref 1), some (.ref w), some (.ref 0), some (.int (Int32.ofInt fr)), some (.int (Int32.ofInt ((g0 541 0).toInt))), x5, x6, x7, some (.int (Int32.ofInt (t : Int))), some (.int (Int32.ofInt (t2 : Int))), x10, some (.int (Int32.ofInt day)), x12, x13, x14, x15, x16, x17, x18, x19, x20, x21, x22, x23, x24, x25, x26, some (.int (Int32.ofInt i27)), some (.int (Int32.ofInt X0)), some (.int (Int32.ofInt Y0)), some (.int (Int32.ofInt i30))], [.int (Int32.ofInt 1), .int (Int32.ofInt day), .ref 1], h101)) rfl ?_
  obtain ⟨g102, r102⟩ := qi_131 F C hd (i := 1) (by omega)
  obtain ⟨fs102, oo102⟩ := C.o
  refine yy_fin.cv (as := [.int (Int32.ofInt day), .int (Int32.ofInt 1)]) rfl rfl rfl oo102 (Nat.le_of_ble_eq_true rfl) (Nat.le_of_ble_eq_true rfl) r102 ?_
  rintro v h102 ⟨rfl, C, x102⟩
  have hx102 := x102.1
  replace Y := Y.tr x102 (fun _ _ e => e)
  replace hY := Y.1
  refine yy_fin.steps (n := 1) (s' := (1194, [some (.ref 1), some (.ref w), some (.ref 0), some (.int (Int32.ofInt fr)), some (.int (Int32.ofInt ((g0 541 0).toInt))), x5, x6, x7, some (.int (Int32.ofInt (t : Int))), some (.int (Int32.ofInt (t2 : Int))), x10, some (.int (Int32.ofInt day)), x12, x13, x14, x15, x16, x17, x18, x19, x20, x21, x22, x23, x24, x25, x26, some (.int (Int32.ofInt i27)), some (.int (Int32.ofInt X0)), some (.int (Int32.ofInt Y0)), some (.int (Int32.ofInt i30))], [.int (Int32.ofInt Y0), .int (Int32.ofInt (s_131 (g0 541) day 1))], h102)) rfl ?_
  refine yy_fin.ic rfl (fun cz => absurd (congrArg Int32.ofInt es2) (y_cne cz)) (fun _ => ?_)
  refine yy_fin.steps (n := 3) (s' := (1201, [some (.ref 1), some (.ref w), some (.ref 0), some (.int (Int32.ofInt fr)), some (.int (Int32.ofInt ((g0 541 0).toInt))), x5, x6, x7, some (.int (Int32.ofInt (t : Int))), some (.int (Int32.ofInt (t2 : Int))), x10, some (.int (Int32.ofInt day)), x12, x13, x14, x15, x16, x17, x18, x19, x20, x21, x22, x23, x24, x25, x26, some (.int (Int32.ofInt i27)), some (.int (Int32.ofInt X0)), some (.int (Int32.ofInt Y0)), some (.int (Int32.ofInt i30))], [.int (Int32.ofInt 2), .int (Int32.ofInt day), .ref 1], h102)) rfl ?_
  obtain ⟨g103, r103⟩ := qi_131 F C hd (i := 2) (by omega)
  obtain ⟨fs103, oo103⟩ := C.o
  refine yy_fin.cv (as := [.int (Int32.ofInt day), .int (Int32.ofInt 2)]) rfl rfl rfl oo103 (Nat.le_of_ble_eq_true rfl) (Nat.le_of_ble_eq_true rfl) r103 ?_
  rintro v h103 ⟨rfl, C, x103⟩
  have hx103 := x103.1
  replace Y := Y.tr x103 (fun _ _ e => e)
  replace hY := Y.1
  refine yy_fin.steps (n := 1) (s' := (1206, [some (.ref 1), some (.ref w), some (.ref 0), some (.int (Int32.ofInt fr)), some (.int (Int32.ofInt ((g0 541 0).toInt))), x5, x6, x7, some (.int (Int32.ofInt (t : Int))), some (.int (Int32.ofInt (t2 : Int))), x10, some (.int (Int32.ofInt day)), x12, x13, x14, x15, x16, x17, x18, x19, x20, x21, x22, x23, x24, x25, x26, some (.int (Int32.ofInt i27)), some (.int (Int32.ofInt X0)), some (.int (Int32.ofInt Y0)), some (.int (Int32.ofInt i30))], [.int (Int32.ofInt X0), .int (Int32.ofInt (s_131 (g0 541) day 2))], h103)) rfl ?_
  suffices J104 : ∀ (h' : zz_H) (g' : aa_G) (p104 : Int), p104 = s_131 (g0 541) day 2 → yCx own w lst g0 h' g' → yx (yAk w) (a + 70) (e + 140) h0 h' → yy_fin X 278 (1231, [some (.ref 1), some (.ref w), some (.ref 0), some (.int (Int32.ofInt fr)), some (.int (Int32.ofInt ((g0 541 0).toInt))), x5, x6, x7, some (.int (Int32.ofInt (t : Int))), some (.int (Int32.ofInt (t2 : Int))), x10, some (.int (Int32.ofInt day)), x12, x13, x14, x15, x16, x17, x18, x19, x20, x21, x22, x23, x24, x25, x26, some (.int (Int32.ofInt i27)), some (.int (Int32.ofInt X0)), some (.int (Int32.ofInt Y0)), some (.int (Int32.ofInt i30))], [.int (Int32.ofInt p104), .int (Int32.ofInt (s_131 (g0 541) day 2))], h') φ by
    refine yy_fin.if rfl (fun c105 => ?_) (fun c105 => ?_)
    · have c105 := (yi_z_ge (a := X0) (by omega)).mp c105
      obtain ⟨mx, emx⟩ : ∃ m : Nat, X0 = m := ⟨X0.toNat, by omega⟩
      have hmx : (mx : Int) < (g0 541 0).toInt := by omega
      have etmx : X0.toNat = mx := by omega
      have lmx := s_l_b (d := day) F.2.2.2 hmx
      obtain ⟨my, emy⟩ : ∃ m : Nat, Y0 = m := ⟨Y0.toNat, by omega⟩
      have hmy : (my : Int) < (g0 541 0).toInt := by omega
      have etmy : Y0.toNat = my := by omega
      have lmy := s_l_b (d := day) F.2.2.2 hmy
      refine yy_fin.steps (n := 3) (s' := (1219, [some (.ref 1), some (.ref w), some (.ref 0), some (.int (Int32.ofInt fr)), some (.int (Int32.ofInt ((g0 541 0).toInt))), x5, x6, x7, some (.int (Int32.ofInt (t : Int))), some (.int (Int32.ofInt (t2 : Int))), x10, some (.int (Int32.ofInt day)), x12, x13, x14, x15, x16, x17, x18, x19, x20, x21, x22, x23, x24, x25, x26, some (.int (Int32.ofInt i27)), some (.int (Int32.ofInt X0)), some (.int (Int32.ofInt Y0)), some (.int (Int32.ofInt i30))], [.int (Int32.ofInt day), .int (Int32.ofInt X0), .ref w, .int (Int32.ofInt (s_131 (g0 541) day 2))], h103)) rfl ?_
      have yL106 := yc_light2 (X := X) F C hmx (d := day) (by omega) (by omega)
      rw [← emx] at yL106
      obtain ⟨fw107, oW107⟩ := C.ow
      refine yy_fin.cv (as := [.int (Int32.ofInt X0), .int (Int32.ofInt day)]) rfl rfl rfl oW107 (Nat.le_of_ble_eq_true rfl) (Nat.le_of_ble_eq_true rfl) (yL106) ?_
      rintro v h107 ⟨rfl, C, x107⟩
      have hx107 := x107.1
      replace Y := Y.tr x107 (fun _ _ e => e)
      replace hY := Y.1
      refine yy_fin.steps (n := 3) (s' := (1227, [some (.ref 1), some (.ref w), some (.ref 0), some (.int (Int32.ofInt fr)), some (.int (Int32.ofInt ((g0 541 0).toInt))), x5, x6, x7, some (.int (Int32.ofInt (t : Int))), some (.int (Int32.ofInt (t2 : Int))), x10, some (.int (Int32.ofInt day)), x12, x13, x14, x15, x16, x17, x18, x19, x20, x21, x22, x23, x24, x25, x26, some (.int (Int32.ofInt i27)), some (.int (Int32.ofInt X0)), some (.int (Int32.ofInt Y0)), some (.int (Int32.ofInt i30))], [.int (Int32.ofInt day), .int (Int32.ofInt Y0), .ref w, .int (Int32.ofInt (s_l (g0 541) mx day)), .int (Int32.ofInt (s_131 (g0 541) day 2))], h107)) rfl ?_
      have yL108 := yc_light2 (X := X) F C hmy (d := day) (by omega) (by omega)
      rw [← emy] at yL108
      obtain ⟨fw109, oW109⟩ := C.ow
      refine yy_fin.cv (as := [.int (Int32.ofInt Y0), .int (Int32.ofInt day)]) rfl rfl rfl oW109 (Nat.le_of_ble_eq_true rfl) (Nat.le_of_ble_eq_true rfl) (yL108) ?_
      rintro v h109 ⟨rfl, C, x109⟩
      have hx109 := x109.1
      replace Y := Y.tr x109 (fun _ _ e => e)
      replace hY := Y.1
      refine yy_fin.steps (n := 1) (s' := (1231, [some (.ref 1), some (.ref w), some (.ref 0), some (.int (Int32.ofInt fr)), some (.int (Int32.ofInt ((g0 541 0).toInt))), x5, x6, x7, some (.int (Int32.ofInt (t : Int))), some (.int (Int32.ofInt (t2 : Int))), x10, some (.int (Int32.ofInt day)), x12, x13, x14, x15, x16, x17, x18, x19, x20, x21, x22, x23, x24, x25, x26, some (.int (Int32.ofInt i27)), some (.int (Int32.ofInt X0)), some (.int (Int32.ofInt Y0)), some (.int (Int32.ofInt i30))], [.int ((Int32.ofInt (s_l (g0 541) mx day)) - (Int32.ofInt (s_l (g0 541) my day))), .int (Int32.ofInt (s_131 (g0 541) day 2))], h109)) rfl ?_
      rw [yi_sub (s_l (g0 541) mx day) (s_l (g0 541) my day)]
      exact J104 _ _ ((s_l (g0 541) mx day) - (s_l (g0 541) my day)) (by rw [es3, if_neg (show ¬ X0 = -2 by omega), etmx, etmy]) C (Y.le (by omega) (by omega))
    · have c105 := mt (yi_z_ge (a := X0) (by omega)).mpr c105
      refine yy_fin.steps (n := 2) (s' := (1231, [some (.ref 1), some (.ref w), some (.ref 0), some (.int (Int32.ofInt fr)), some (.int (Int32.ofInt ((g0 541 0).toInt))), x5, x6, x7, some (.int (Int32.ofInt (t : Int))), some (.int (Int32.ofInt (t2 : Int))), x10, some (.int (Int32.ofInt day)), x12, x13, x14, x15, x16, x17, x18, x19, x20, x21, x22, x23, x24, x25, x26, some (.int (Int32.ofInt i27)), some (.int (Int32.ofInt X0)), some (.int (Int32.ofInt Y0)), some (.int (Int32.ofInt i30))], [.int (Int32.ofInt (-2)), .int (Int32.ofInt (s_131 (g0 541) day 2))], h103)) rfl ?_
      exact J104 _ _ (-2) (by rw [es3, if_pos (show X0 = -2 by omega)]) C (Y.le (by omega) (by omega))
  intro h104 g104 p104 ep104 C Y
  replace hY := Y.1
  refine yy_fin.ic rfl (fun cz => absurd (congrArg Int32.ofInt ep104.symm) (y_cne cz)) (fun _ => ?_)
  refine yy_fin.steps (n := 3) (s' := (1238, [some (.ref 1), some (.ref w), some (.ref 0), some (.int (Int32.ofInt fr)), some (.int (Int32.ofInt ((g0 541 0).toInt))), x5, x6, x7, some (.int (Int32.ofInt (t : Int))), some (.int (Int32.ofInt (t2 : Int))), x10, some (.int (Int32.ofInt day)), x12, x13, x14, x15, x16, x17, x18, x19, x20, x21, x22, x23, x24, x25, x26, some (.int (Int32.ofInt i27)), some (.int (Int32.ofInt X0)), some (.int (Int32.ofInt Y0)), some (.int (Int32.ofInt i30))], [.int (Int32.ofInt 0), .int (Int32.ofInt 36000), .ref 1], h104)) rfl ?_
  obtain ⟨g110, r110⟩ := qn_131 F C
  obtain ⟨fs110, oo110⟩ := C.o
  refine yy_fin.cv (as := [.int (Int32.ofInt 36000), .int (Int32.ofInt 0)]) rfl rfl rfl oo110 (Nat.le_of_ble_eq_true rfl) (Nat.le_of_ble_eq_true rfl) r110 ?_
  rintro v h110 ⟨rfl, C, x110⟩
  have hx110 := x110.1
  replace Y := Y.tr x110 (fun _ _ e => e)
  replace hY := Y.1
  refine yy_fin.steps (n := 1) (s' := (1242, [some (.ref 1), some (.ref w), some (.ref 0), some (.int (Int32.ofInt fr)), some (.int (Int32.ofInt ((g0 541 0).toInt))), x5, x6, x7, some (.int (Int32.ofInt (t : Int))), some (.int (Int32.ofInt (t2 : Int))), x10, some (.int (Int32.ofInt day)), x12, x13, x14, x15, x16, x17, x18, x19, x20, x21, x22, x23, x24, x25, x26, some (.int (Int32.ofInt i27)), some (.int (Int32.ofInt X0)), some (.int (Int32.ofInt Y0)), some (.int (Int32.ofInt i30))], [.int (Int32.ofInt (-1)), .int (Int32.ofInt (-1))], h110)) rfl ?_
  refine yy_fin.ic rfl (fun cz => absurd (congrArg Int32.ofInt (rfl : (-1 : Int) = -1)) (y_cne cz)) (fun _ => ?_)
  refine yy_fin.steps (n := 6) (s' := (1254, [some (.ref 1), some (.ref w), some (.ref 0), some (.int (Int32.ofInt fr)), some (.int (Int32.ofInt ((g0 541 0).toInt))), x5, x6, x7, some (.int (Int32.ofInt (t : Int))), some (.int (Int32.ofInt (t2 : Int))), x10, some (.int (Int32.ofInt day)), x12, x13, x14, x15, x16, x17, x18, x19, x20, x21, x22, x23, x24, x25, x26, some (.int (Int32.ofInt i27)), some (.int (Int32.ofInt X0)), some (.int (Int32.ofInt Y0)), some (.int (Int32.ofInt i30))], [.ref w, .int (Int32.ofInt 12), .int (Int32.ofInt 0), .int (Int32.ofInt day), .int (Int32.ofInt (t : Int)), .ref 1], h110)) rfl ?_
  obtain ⟨o111, p111, b111, t111, oP111, eP111⟩ := C.wp
  refine yy_fin.fi rfl oP111 rfl eP111 ?_
  refine yy_fin.steps (n := 1) (s' := (1258, [some (.ref 1), some (.ref w), some (.ref 0), some (.int (Int32.ofInt fr)), some (.int (Int32.ofInt ((g0 541 0).toInt))), x5, x6, x7, some (.int (Int32.ofInt (t : Int))), some (.int (Int32.ofInt (t2 : Int))), x10, some (.int (Int32.ofInt day)), x12, x13, x14, x15, x16, x17, x18, x19, x20, x21, x22, x23, x24, x25, x26, some (.int (Int32.ofInt i27)), some (.int (Int32.ofInt X0)), some (.int (Int32.ofInt Y0)), some (.int (Int32.ofInt i30))], [.int ((Int32.ofInt 12) * (Int32.ofInt ((g0 541 1).toInt))), .int (Int32.ofInt 0), .int (Int32.ofInt day), .int (Int32.ofInt (t : Int)), .ref 1], h110)) rfl ?_
  rw [yi_mul 12 ((g0 541 1).toInt)]
  obtain ⟨g112, r112⟩ := qn_90 (t := t) (day := day) (f := 0) (n := 12 * (g0 541 1).toInt) F C (by omega) (by omega) (Or.inr (Int.le_refl _))
  obtain ⟨fs112, oo112⟩ := C.o
  refine yy_fin.cv (as := [.int (Int32.ofInt (t : Int)), .int (Int32.ofInt day), .int (Int32.ofInt 0), .int (Int32.ofInt (12 * ((g0 541 1).toInt)))]) rfl rfl rfl oo112 (Nat.le_of_ble_eq_true rfl) (Nat.le_of_ble_eq_true rfl) r112 ?_
  rintro v h112 ⟨rfl, C, x112⟩
  have hx112 := x112.1
  replace Y := Y.tr x112 (fun _ _ e => e)
  replace hY := Y.1
  refine yy_fin.steps (n := 1) (s' := (1262, [some (.ref 1), some (.ref w), some (.ref 0), some (.int (Int32.ofInt fr)), some (.int (Int32.ofInt ((g0 541 0).toInt))), x5, x6, x7, some (.int (Int32.ofInt (t : Int))), some (.int (Int32.ofInt (t2 : Int))), x10, some (.int (Int32.ofInt day)), x12, x13, x14, x15, x16, x17, x18, x19, x20, x21, x22, x23, x24, x25, x26, some (.int (Int32.ofInt i27)), some (.int (Int32.ofInt X0)), some (.int (Int32.ofInt Y0)), some (.int (Int32.ofInt i30))], [.int (Int32.ofInt (-1)), .int (Int32.ofInt (-1))], h112)) rfl ?_
  refine yy_fin.ic rfl (fun cz => absurd (congrArg Int32.ofInt (rfl : (-1 : Int) = -1)) (y_cne cz)) (fun _ => ?_)
  refine yy_fin.steps (n := 5) (s' := (1272, [some (.ref 1), some (.ref w), some (.ref 0), some (.int (Int32.ofInt fr)), some (.int (Int32.ofInt ((g0 541 0).toInt))), x5, x6, x7, some (.int (Int32.ofInt (t : Int))), some (.int (Int32.ofInt (t2 : Int))), x10, some (.int (Int32.ofInt day)), x12, x13, x14, x15, x16, x17, x18, x19, x20, x21, x22, x23, x24, x25, x26, some (.int (Int32.ofInt i27)), some (.int (Int32.ofInt X0)), some (.int (Int32.ofInt Y0)), some (.int (Int32.ofInt i30))], [.int (Int32.ofInt 0), .int (Int32.ofInt 2), .int (Int32.ofInt day), .int (Int32.ofInt (t : Int)), .ref 1], h112)) rfl ?_
  obtain ⟨g113, r113⟩ := qn_90 (t := t) (day := day) (f := 2) (n := 0) F C (by omega) (by omega) (Or.inl (by decide))
  obtain ⟨fs113, oo113⟩ := C.o
  refine yy_fin.cv (as := [.int (Int32.ofInt (t : Int)), .int (Int32.ofInt day), .int (Int32.ofInt 2), .int (Int32.ofInt 0)]) rfl rfl rfl oo113 (Nat.le_of_ble_eq_true rfl) (Nat.le_of_ble_eq_true rfl) r113 ?_
  rintro v h113 ⟨rfl, C, x113⟩
  have hx113 := x113.1
  replace Y := Y.tr x113 (fun _ _ e => e)
  replace hY := Y.1
  refine yy_fin.steps (n := 1) (s' := (1276, [some (.ref 1), some (.ref w), some (.ref 0), some (.int (Int32.ofInt fr)), some (.int (Int32.ofInt ((g0 541 0).toInt))), x5, x6, x7, some (.int (Int32.ofInt (t : Int))), some (.int (Int32.ofInt (t2 : Int))), x10, some (.int (Int32.ofInt day)), x12, x13, x14, x15, x16, x17, x18, x19, x20, x21, x22, x23, x24, x25, x26, some (.int (Int32.ofInt i27)), some (.int (Int32.ofInt X0)), some (.int (Int32.ofInt Y0)), some (.int (Int32.ofInt i30))], [.int (Int32.ofInt (-1)), .int (Int32.ofInt (-1))], h113)) rfl ?_
  refine yy_fin.ic rfl (fun cz => absurd (congrArg Int32.ofInt (rfl : (-1 : Int) = -1)) (y_cne cz)) (fun _ => ?_)
  refine yy_fin.steps (n := 5) (s' := (1287, [some (.ref 1), some (.ref w), some (.ref 0), some (.int (Int32.ofInt fr)), some (.int (Int32.ofInt ((g0 541 0).toInt))), x5, x6, x7, some (.int (Int32.ofInt (t : Int))), some (.int (Int32.ofInt (t2 : Int))), x10, some (.int (Int32.ofInt day)), x12, x13, x14, x15, x16, x17, x18, x19, x20, x21, x22, x23, x24, x25, x26, some (.int (Int32.ofInt i27)), some (.int (Int32.ofInt X0)), some (.int (Int32.ofInt Y0)), some (.int (Int32.ofInt i30))], [.int (Int32.ofInt 0), .int (Int32.ofInt 86400), .int (Int32.ofInt day), .int (Int32.ofInt (t : Int)), .ref 1], h113)) rfl ?_
  obtain ⟨g114, r114⟩ := qn_85 (t := t) (day := day) F C
  obtain ⟨fs114, oo114⟩ := C.o
  refine yy_fin.cv (as := [.int (Int32.ofInt (t : Int)), .int (Int32.ofInt day), .int (Int32.ofInt 86400), .int (Int32.ofInt 0)]) rfl rfl rfl oo114 (Nat.le_of_ble_eq_true rfl) (Nat.le_of_ble_eq_true rfl) r114 ?_
  rintro v h114 ⟨rfl, C, x114⟩
  have hx114 := x114.1
  replace Y := Y.tr x114 (fun _ _ e => e)
  replace hY := Y.1
  refine yy_fin.steps (n := 1) (s' := (1291, [some (.ref 1), some (.ref w), some (.ref 0), some (.int (Int32.ofInt fr)), some (.int (Int32.ofInt ((g0 541 0).toInt))), x5, x6, x7, some (.int (Int32.ofInt (t : Int))), some (.int (Int32.ofInt (t2 : Int))), x10, some (.int (Int32.ofInt day)), x12, x13, x14, x15, x16, x17, x18, x19, x20, x21, x22, x23, x24, x25, x26, some (.int (Int32.ofInt i27)), some (.int (Int32.ofInt X0)), some (.int (Int32.ofInt Y0)), some (.int (Int32.ofInt i30))], [.int (Int32.ofInt (-1)), .int (Int32.ofInt (-1))], h114)) rfl ?_
  refine yy_fin.ic rfl (fun cz => absurd (congrArg Int32.ofInt (rfl : (-1 : Int) = -1)) (y_cne cz)) (fun _ => ?_)
  refine yy_fin.steps (n := 2) (s' := (1299, [some (.ref 1), some (.ref w), some (.ref 0), some (.int (Int32.ofInt fr)), some (.int (Int32.ofInt ((g0 541 0).toInt))), x5, x6, x7, some (.int (Int32.ofInt (t : Int))), some (.int (Int32.ofInt (t2 : Int))), x10, some (.int (Int32.ofInt day)), x12, x13, x14, x15, x16, x17, x18, x19, x20, x21, x22, x23, x24, x25, x26, some (.int (Int32.ofInt i27)), some (.int (Int32.ofInt X0)), some (.int (Int32.ofInt Y0)), some (.int (Int32.ofInt i30))], [.int (Int32.ofInt 1)], h114)) rfl ?_
  exact yy_fin.at (n := 1) rfl (kk _ _ C (Y.le (by omega) (by omega)))
end YD25
