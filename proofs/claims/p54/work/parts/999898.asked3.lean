/-! THE LAW ASKS (278): its three days (printed by wip/p54/w26.py) -/
section YD26
variable {X : yy_X} {own : yOwn} {w t t2 L : Nat} {xs : Nat → Int32} {lst : List (yBell × List fl_T)} {g0 g : aa_G} {h h0 : zz_H} {day fr : Int} {φ : Option Value → zz_H → Prop}
theorem ya_d (F : yCf own w lst g0) (hN : 1 ≤ (g0 541 0).toInt) (hX : X.1 = some (L, xs)) (hL : L ≤ 100000) (hfr : 0 ≤ fr ∧ fr ≤ 800000) (C : yCx own w lst g0 h g) (hB : h.1.1 + 12000 < yy_B) (kk : ∀ h' g' x6 i7, yCx own w lst g0 h' g' → yx (yAk w) 2700 10200 h h' → yy_fin X 278 (178, [some (.ref 1), some (.ref w), some (.ref 0), some (.int (Int32.ofInt fr)), some (.int (Int32.ofInt ((g0 541 0).toInt))), some (.int (Int32.ofInt 3)), x6, some (.int (Int32.ofInt i7)), none, none, none, none, none, none, none, none, none, none, none, none, none, none, none, none, none, none, none, none, none, none, none], [], h') φ) : yy_fin X 278 (85, [some (.ref 1), some (.ref w), some (.ref 0), some (.int (Int32.ofInt fr)), some (.int (Int32.ofInt ((g0 541 0).toInt))), none, none, none, none, none, none, none, none, none, none, none, none, none, none, none, none, none, none, none, none, none, none, none, none, none, none], [], h) φ := by
  have Y : yx (yAk w) 0 0 h h := yx.rf
  have n4 := F.2.2.2.1
  have hq := F.2.2.2.2.1
  have hY := Y.1
  have hg := C.2.1.2
  have l8 := F.2.2.1.2.1
  refine yy_fin.steps (n := 4) (s' := (91, [some (.ref 1), some (.ref w), some (.ref 0), some (.int (Int32.ofInt fr)), some (.int (Int32.ofInt ((g0 541 0).toInt))), some (.int (Int32.ofInt 0)), none, none, none, none, none, none, none, none, none, none, none, none, none, none, none, none, none, none, none, none, none, none, none, none, none], [.int (Int32.ofInt 3), .int (Int32.ofInt 0)], h)) rfl ?_
  refine yy_fin.ic rfl (fun cK => absurd cK (by decide)) (fun cK => ?_)
  refine yy_fin.steps (n := 4) (s' := (99, [some (.ref 1), some (.ref w), some (.ref 0), some (.int (Int32.ofInt fr)), some (.int (Int32.ofInt ((g0 541 0).toInt))), some (.int (Int32.ofInt 0)), none, none, none, none, none, none, none, none, none, none, none, none, none, none, none, none, none, none, none, none, none, none, none, none, none], [.int ((Int32.ofInt fr) + (Int32.ofInt 0)), .ref 0], h)) rfl ?_
  rw [yi_add fr 0]
  refine yy_fin.calls (as := [.ref 0, .int (Int32.ofInt (fr + 0))]) rfl (by decide) rfl rfl (Nat.le_of_ble_eq_true rfl) (Nat.le_of_ble_eq_true rfl) (yl_pick hX hL (k := fr + 0) (by omega)) ?_
  rintro v h9 ⟨x0, rfl, ax0, bx0, e9⟩
  obtain rfl := e9.symm
  refine yy_fin.steps (n := 1) (s' := (104, [some (.ref 1), some (.ref w), some (.ref 0), some (.int (Int32.ofInt fr)), some (.int (Int32.ofInt ((g0 541 0).toInt))), some (.int (Int32.ofInt 0)), some (.int (Int32.ofInt x0)), none, none, none, none, none, none, none, none, none, none, none, none, none, none, none, none, none, none, none, none, none, none, none, none], [], h)) rfl ?_
  suffices J0 : ∀ d0 : Int, (0 ≤ d0 ∧ d0 ≤ 35999) → yy_fin X 278 (139, [some (.ref 1), some (.ref w), some (.ref 0), some (.int (Int32.ofInt fr)), some (.int (Int32.ofInt ((g0 541 0).toInt))), some (.int (Int32.ofInt 0)), some (.int (Int32.ofInt x0)), none, none, none, none, none, none, none, none, none, none, none, none, none, none, none, none, none, none, none, none, none, none, none, none], [.int (Int32.ofInt d0)], h) φ by
    refine yy_fin.steps (n := 1) (s' := (106, [some (.ref 1), some (.ref w), some (.ref 0), some (.int (Int32.ofInt fr)), some (.int (Int32.ofInt ((g0 541 0).toInt))), some (.int (Int32.ofInt 0)), some (.int (Int32.ofInt x0)), none, none, none, none, none, none, none, none, none, none, none, none, none, none, none, none, none, none, none, none, none, none, none, none], [.int (Int32.ofInt 0)], h)) rfl ?_
    refine yy_fin.if rfl (fun cK => absurd cK (by decide)) (fun cK => ?_)
    refine yy_fin.steps (n := 2) (s' := (112, [some (.ref 1), some (.ref w), some (.ref 0), some (.int (Int32.ofInt fr)), some (.int (Int32.ofInt ((g0 541 0).toInt))), some (.int (Int32.ofInt 0)), some (.int (Int32.ofInt x0)), none, none, none, none, none, none, none, none, none, none, none, none, none, none, none, none, none, none, none, none, none, none, none, none], [.int (Int32.ofInt 3), .int (Int32.ofInt x0)], h)) rfl ?_
    refine yy_fin.rm rfl (by decide) ?_
    rw [yi_rem (a := x0) (b := 3) (by omega) (by omega)]
    refine yy_fin.if rfl (fun c101 => ?_) (fun c101 => ?_)
    · have c101 := (yi_z_ne (a := x0 % 3) (by omega)).mp c101
      refine yy_fin.steps (n := 2) (s' := (129, [some (.ref 1), some (.ref w), some (.ref 0), some (.int (Int32.ofInt fr)), some (.int (Int32.ofInt ((g0 541 0).toInt))), some (.int (Int32.ofInt 0)), some (.int (Int32.ofInt x0)), none, none, none, none, none, none, none, none, none, none, none, none, none, none, none, none, none, none, none, none, none, none, none, none], [.int (Int32.ofInt 3), .int (Int32.ofInt x0)], h)) rfl ?_
      refine yy_fin.rm rfl (by decide) ?_
      rw [yi_rem (a := x0) (b := 3) (by omega) (by omega)]
      refine yy_fin.steps (n := 1) (s' := (139, [some (.ref 1), some (.ref w), some (.ref 0), some (.int (Int32.ofInt fr)), some (.int (Int32.ofInt ((g0 541 0).toInt))), some (.int (Int32.ofInt 0)), some (.int (Int32.ofInt x0)), none, none, none, none, none, none, none, none, none, none, none, none, none, none, none, none, none, none, none, none, none, none, none, none], [.int (Int32.ofInt (x0 % 3))], h)) rfl ?_
      exact J0 (x0 % 3) (by omega)
    · have c101 := mt (yi_z_ne (a := x0 % 3) (by omega)).mpr c101
      refine yy_fin.steps (n := 3) (s' := (121, [some (.ref 1), some (.ref w), some (.ref 0), some (.int (Int32.ofInt fr)), some (.int (Int32.ofInt ((g0 541 0).toInt))), some (.int (Int32.ofInt 0)), some (.int (Int32.ofInt x0)), none, none, none, none, none, none, none, none, none, none, none, none, none, none, none, none, none, none, none, none, none, none, none, none], [.int (Int32.ofInt 2), .int (Int32.ofInt x0), .int (Int32.ofInt 35999)], h)) rfl ?_
      refine yy_fin.rm rfl (by decide) ?_
      rw [yi_rem (a := x0) (b := 2) (by omega) (by omega)]
      refine yy_fin.steps (n := 2) (s' := (139, [some (.ref 1), some (.ref w), some (.ref 0), some (.int (Int32.ofInt fr)), some (.int (Int32.ofInt ((g0 541 0).toInt))), some (.int (Int32.ofInt 0)), some (.int (Int32.ofInt x0)), none, none, none, none, none, none, none, none, none, none, none, none, none, none, none, none, none, none, none, none, none, none, none, none], [.int ((Int32.ofInt 35999) - (Int32.ofInt (x0 % 2)))], h)) rfl ?_
      rw [yi_sub 35999 (x0 % 2)]
      exact J0 (35999 - (x0 % 2)) (by omega)
  intro d0 hd0
  refine yy_fin.steps (n := 13) (s' := (158, [some (.ref 1), some (.ref w), some (.ref 0), some (.int (Int32.ofInt fr)), some (.int (Int32.ofInt ((g0 541 0).toInt))), some (.int (Int32.ofInt 0)), some (.int (Int32.ofInt x0)), some (.int (Int32.ofInt d0)), none, none, none, none, none, none, none, none, none, none, none, none, none, none, none, none, none, none, none, none, none, none, none], [.int (Int32.ofInt 800), .int (Int32.ofInt x0), .int (((Int32.ofInt fr) + (Int32.ofInt 3)) + ((Int32.ofInt 7) * (Int32.ofInt 0))), .ref 0, .ref w, .ref 1], h)) rfl ?_
  rw [yi_add fr 3]
  rw [yi_mul 7 0]
  rw [yi_add (fr + 3) (7 * 0)]
  refine yy_fin.dv rfl (by decide) ?_
  rw [yi_div (a := x0) (b := 800) (by omega) (by omega)]
  refine yy_fin.steps (n := 1) (s' := (161, [some (.ref 1), some (.ref w), some (.ref 0), some (.int (Int32.ofInt fr)), some (.int (Int32.ofInt ((g0 541 0).toInt))), some (.int (Int32.ofInt 0)), some (.int (Int32.ofInt x0)), some (.int (Int32.ofInt d0)), none, none, none, none, none, none, none, none, none, none, none, none, none, none, none, none, none, none, none, none, none, none, none], [.int (Int32.ofInt ((g0 541 0).toInt)), .int (Int32.ofInt (x0 / 800)), .int (Int32.ofInt ((fr + 3) + (7 * 0))), .ref 0, .ref w, .ref 1], h)) rfl ?_
  refine yy_fin.rm rfl (fun z => by have z := (yi_eq (a := ((g0 541 0).toInt)) (b := 0) (by omega) (by omega)).mp z; omega) ?_
  rw [yi_rem (a := x0 / 800) (b := ((g0 541 0).toInt)) (by omega) (by omega)]
  have hm0 : 0 ≤ (x0 / 800) % ((g0 541 0).toInt) ∧ (x0 / 800) % ((g0 541 0).toInt) < (g0 541 0).toInt := ⟨Int.emod_nonneg _ (by omega), Int.emod_lt_of_pos _ (by omega)⟩
  obtain ⟨m0, em0⟩ : ∃ m : Nat, (x0 / 800) % ((g0 541 0).toInt) = m := ⟨((x0 / 800) % ((g0 541 0).toInt)).toNat, by omega⟩
  rw [em0]
  rw [em0] at hm0
  refine yy_fin.steps (n := 1) (s' := (164, [some (.ref 1), some (.ref w), some (.ref 0), some (.int (Int32.ofInt fr)), some (.int (Int32.ofInt ((g0 541 0).toInt))), some (.int (Int32.ofInt 0)), some (.int (Int32.ofInt x0)), some (.int (Int32.ofInt d0)), none, none, none, none, none, none, none, none, none, none, none, none, none, none, none, none, none, none, none, none, none, none, none], [.int (Int32.ofInt d0), .int (Int32.ofInt (m0 : Int)), .int (Int32.ofInt ((fr + 3) + (7 * 0))), .ref 0, .ref w, .ref 1], h)) rfl ?_
  refine yy_fin.calls (as := [.ref 1, .ref w, .ref 0, .int (Int32.ofInt ((fr + 3) + (7 * 0))), .int (Int32.ofInt (m0 : Int)), .int (Int32.ofInt d0)]) rfl (by decide) rfl rfl (Nat.le_of_ble_eq_true rfl) (Nat.le_of_ble_eq_true rfl) (yl_days F hm0.2 hd0 hX hL (by omega) C (by omega)) ?_
  rintro v h102 ⟨rfl, g102, C, x102⟩
  have hx102 := x102.1
  replace Y := Y.tr x102 (fun _ _ e => e)
  replace hY := Y.1
  refine yy_fin.if rfl (fun cK => ?_) (fun cK => absurd (by decide) cK)
  refine yy_fin.steps (n := 4) (s' := (91, [some (.ref 1), some (.ref w), some (.ref 0), some (.int (Int32.ofInt fr)), some (.int (Int32.ofInt ((g0 541 0).toInt))), some (.int ((Int32.ofInt 0) + (Int32.ofInt 1))), some (.int (Int32.ofInt x0)), some (.int (Int32.ofInt d0)), none, none, none, none, none, none, none, none, none, none, none, none, none, none, none, none, none, none, none, none, none, none, none], [.int (Int32.ofInt 3), .int ((Int32.ofInt 0) + (Int32.ofInt 1))], h102)) rfl ?_
  rw [show (Int32.ofInt 0) + (Int32.ofInt 1) = Int32.ofInt 1 from by decide]
  refine yy_fin.ic rfl (fun cK => absurd cK (by decide)) (fun cK => ?_)
  refine yy_fin.steps (n := 4) (s' := (99, [some (.ref 1), some (.ref w), some (.ref 0), some (.int (Int32.ofInt fr)), some (.int (Int32.ofInt ((g0 541 0).toInt))), some (.int (Int32.ofInt 1)), some (.int (Int32.ofInt x0)), some (.int (Int32.ofInt d0)), none, none, none, none, none, none, none, none, none, none, none, none, none, none, none, none, none, none, none, none, none, none, none], [.int ((Int32.ofInt fr) + (Int32.ofInt 1)), .ref 0], h102)) rfl ?_
  rw [yi_add fr 1]
  refine yy_fin.calls (as := [.ref 0, .int (Int32.ofInt (fr + 1))]) rfl (by decide) rfl rfl (Nat.le_of_ble_eq_true rfl) (Nat.le_of_ble_eq_true rfl) (yl_pick hX hL (k := fr + 1) (by omega)) ?_
  rintro v h9 ⟨x1, rfl, ax1, bx1, e9⟩
  obtain rfl := e9.symm
  refine yy_fin.steps (n := 1) (s' := (104, [some (.ref 1), some (.ref w), some (.ref 0), some (.int (Int32.ofInt fr)), some (.int (Int32.ofInt ((g0 541 0).toInt))), some (.int (Int32.ofInt 1)), some (.int (Int32.ofInt x1)), some (.int (Int32.ofInt d0)), none, none, none, none, none, none, none, none, none, none, none, none, none, none, none, none, none, none, none, none, none, none, none], [], h102)) rfl ?_
  suffices J1 : ∀ d1 : Int, (0 ≤ d1 ∧ d1 ≤ 35999) → yy_fin X 278 (139, [some (.ref 1), some (.ref w), some (.ref 0), some (.int (Int32.ofInt fr)), some (.int (Int32.ofInt ((g0 541 0).toInt))), some (.int (Int32.ofInt 1)), some (.int (Int32.ofInt x1)), some (.int (Int32.ofInt d0)), none, none, none, none, none, none, none, none, none, none, none, none, none, none, none, none, none, none, none, none, none, none, none], [.int (Int32.ofInt d1)], h102) φ by
    refine yy_fin.steps (n := 1) (s' := (106, [some (.ref 1), some (.ref w), some (.ref 0), some (.int (Int32.ofInt fr)), some (.int (Int32.ofInt ((g0 541 0).toInt))), some (.int (Int32.ofInt 1)), some (.int (Int32.ofInt x1)), some (.int (Int32.ofInt d0)), none, none, none, none, none, none, none, none, none, none, none, none, none, none, none, none, none, none, none, none, none, none, none], [.int (Int32.ofInt 1)], h102)) rfl ?_
    refine yy_fin.if rfl (fun cK => ?_) (fun cK => absurd (by decide) cK)
    refine yy_fin.steps (n := 2) (s' := (138, [some (.ref 1), some (.ref w), some (.ref 0), some (.int (Int32.ofInt fr)), some (.int (Int32.ofInt ((g0 541 0).toInt))), some (.int (Int32.ofInt 1)), some (.int (Int32.ofInt x1)), some (.int (Int32.ofInt d0)), none, none, none, none, none, none, none, none, none, none, none, none, none, none, none, none, none, none, none, none, none, none, none], [.int (Int32.ofInt 800), .int (Int32.ofInt x1)], h102)) rfl ?_
    refine yy_fin.rm rfl (by decide) ?_
    rw [yi_rem (a := x1) (b := 800) (by omega) (by omega)]
    exact J1 (x1 % 800) (by omega)
  intro d1 hd1
  refine yy_fin.steps (n := 13) (s' := (158, [some (.ref 1), some (.ref w), some (.ref 0), some (.int (Int32.ofInt fr)), some (.int (Int32.ofInt ((g0 541 0).toInt))), some (.int (Int32.ofInt 1)), some (.int (Int32.ofInt x1)), some (.int (Int32.ofInt d1)), none, none, none, none, none, none, none, none, none, none, none, none, none, none, none, none, none, none, none, none, none, none, none], [.int (Int32.ofInt 800), .int (Int32.ofInt x1), .int (((Int32.ofInt fr) + (Int32.ofInt 3)) + ((Int32.ofInt 7) * (Int32.ofInt 1))), .ref 0, .ref w, .ref 1], h102)) rfl ?_
  rw [yi_add fr 3]
  rw [yi_mul 7 1]
  rw [yi_add (fr + 3) (7 * 1)]
  refine yy_fin.dv rfl (by decide) ?_
  rw [yi_div (a := x1) (b := 800) (by omega) (by omega)]
  refine yy_fin.steps (n := 1) (s' := (161, [some (.ref 1), some (.ref w), some (.ref 0), some (.int (Int32.ofInt fr)), some (.int (Int32.ofInt ((g0 541 0).toInt))), some (.int (Int32.ofInt 1)), some (.int (Int32.ofInt x1)), some (.int (Int32.ofInt d1)), none, none, none, none, none, none, none, none, none, none, none, none, none, none, none, none, none, none, none, none, none, none, none], [.int (Int32.ofInt ((g0 541 0).toInt)), .int (Int32.ofInt (x1 / 800)), .int (Int32.ofInt ((fr + 3) + (7 * 1))), .ref 0, .ref w, .ref 1], h102)) rfl ?_
  refine yy_fin.rm rfl (fun z => by have z := (yi_eq (a := ((g0 541 0).toInt)) (b := 0) (by omega) (by omega)).mp z; omega) ?_
  rw [yi_rem (a := x1 / 800) (b := ((g0 541 0).toInt)) (by omega) (by omega)]
  have hm1 : 0 ≤ (x1 / 800) % ((g0 541 0).toInt) ∧ (x1 / 800) % ((g0 541 0).toInt) < (g0 541 0).toInt := ⟨Int.emod_nonneg _ (by omega), Int.emod_lt_of_pos _ (by omega)⟩
  obtain ⟨m1, em1⟩ : ∃ m : Nat, (x1 / 800) % ((g0 541 0).toInt) = m := ⟨((x1 / 800) % ((g0 541 0).toInt)).toNat, by omega⟩
  rw [em1]
  rw [em1] at hm1
  refine yy_fin.steps (n := 1) (s' := (164, [some (.ref 1), some (.ref w), some (.ref 0), some (.int (Int32.ofInt fr)), some (.int (Int32.ofInt ((g0 541 0).toInt))), some (.int (Int32.ofInt 1)), some (.int (Int32.ofInt x1)), some (.int (Int32.ofInt d1)), none, none, none, none, none, none, none, none, none, none, none, none, none, none, none, none, none, none, none, none, none, none, none], [.int (Int32.ofInt d1), .int (Int32.ofInt (m1 : Int)), .int (Int32.ofInt ((fr + 3) + (7 * 1))), .ref 0, .ref w, .ref 1], h102)) rfl ?_
  refine yy_fin.calls (as := [.ref 1, .ref w, .ref 0, .int (Int32.ofInt ((fr + 3) + (7 * 1))), .int (Int32.ofInt (m1 : Int)), .int (Int32.ofInt d1)]) rfl (by decide) rfl rfl (Nat.le_of_ble_eq_true rfl) (Nat.le_of_ble_eq_true rfl) (yl_days F hm1.2 hd1 hX hL (by omega) C (by omega)) ?_
  rintro v h103 ⟨rfl, g103, C, x103⟩
  have hx103 := x103.1
  replace Y := Y.tr x103 (fun _ _ e => e)
  replace hY := Y.1
  refine yy_fin.if rfl (fun cK => ?_) (fun cK => absurd (by decide) cK)
  refine yy_fin.steps (n := 4) (s' := (91, [some (.ref 1), some (.ref w), some (.ref 0), some (.int (Int32.ofInt fr)), some (.int (Int32.ofInt ((g0 541 0).toInt))), some (.int ((Int32.ofInt 1) + (Int32.ofInt 1))), some (.int (Int32.ofInt x1)), some (.int (Int32.ofInt d1)), none, none, none, none, none, none, none, none, none, none, none, none, none, none, none, none, none, none, none, none, none, none, none], [.int (Int32.ofInt 3), .int ((Int32.ofInt 1) + (Int32.ofInt 1))], h103)) rfl ?_
  rw [show (Int32.ofInt 1) + (Int32.ofInt 1) = Int32.ofInt 2 from by decide]
  refine yy_fin.ic rfl (fun cK => absurd cK (by decide)) (fun cK => ?_)
  refine yy_fin.steps (n := 4) (s' := (99, [some (.ref 1), some (.ref w), some (.ref 0), some (.int (Int32.ofInt fr)), some (.int (Int32.ofInt ((g0 541 0).toInt))), some (.int (Int32.ofInt 2)), some (.int (Int32.ofInt x1)), some (.int (Int32.ofInt d1)), none, none, none, none, none, none, none, none, none, none, none, none, none, none, none, none, none, none, none, none, none, none, none], [.int ((Int32.ofInt fr) + (Int32.ofInt 2)), .ref 0], h103)) rfl ?_
  rw [yi_add fr 2]
  refine yy_fin.calls (as := [.ref 0, .int (Int32.ofInt (fr + 2))]) rfl (by decide) rfl rfl (Nat.le_of_ble_eq_true rfl) (Nat.le_of_ble_eq_true rfl) (yl_pick hX hL (k := fr + 2) (by omega)) ?_
  rintro v h9 ⟨x2, rfl, ax2, bx2, e9⟩
  obtain rfl := e9.symm
  refine yy_fin.steps (n := 1) (s' := (104, [some (.ref 1), some (.ref w), some (.ref 0), some (.int (Int32.ofInt fr)), some (.int (Int32.ofInt ((g0 541 0).toInt))), some (.int (Int32.ofInt 2)), some (.int (Int32.ofInt x2)), some (.int (Int32.ofInt d1)), none, none, none, none, none, none, none, none, none, none, none, none, none, none, none, none, none, none, none, none, none, none, none], [], h103)) rfl ?_
  suffices J2 : ∀ d2 : Int, (0 ≤ d2 ∧ d2 ≤ 35999) → yy_fin X 278 (139, [some (.ref 1), some (.ref w), some (.ref 0), some (.int (Int32.ofInt fr)), some (.int (Int32.ofInt ((g0 541 0).toInt))), some (.int (Int32.ofInt 2)), some (.int (Int32.ofInt x2)), some (.int (Int32.ofInt d1)), none, none, none, none, none, none, none, none, none, none, none, none, none, none, none, none, none, none, none, none, none, none, none], [.int (Int32.ofInt d2)], h103) φ by
    refine yy_fin.steps (n := 1) (s' := (106, [some (.ref 1), some (.ref w), some (.ref 0), some (.int (Int32.ofInt fr)), some (.int (Int32.ofInt ((g0 541 0).toInt))), some (.int (Int32.ofInt 2)), some (.int (Int32.ofInt x2)), some (.int (Int32.ofInt d1)), none, none, none, none, none, none, none, none, none, none, none, none, none, none, none, none, none, none, none, none, none, none, none], [.int (Int32.ofInt 2)], h103)) rfl ?_
    refine yy_fin.if rfl (fun cK => ?_) (fun cK => absurd (by decide) cK)
    refine yy_fin.steps (n := 2) (s' := (138, [some (.ref 1), some (.ref w), some (.ref 0), some (.int (Int32.ofInt fr)), some (.int (Int32.ofInt ((g0 541 0).toInt))), some (.int (Int32.ofInt 2)), some (.int (Int32.ofInt x2)), some (.int (Int32.ofInt d1)), none, none, none, none, none, none, none, none, none, none, none, none, none, none, none, none, none, none, none, none, none, none, none], [.int (Int32.ofInt 800), .int (Int32.ofInt x2)], h103)) rfl ?_
    refine yy_fin.rm rfl (by decide) ?_
    rw [yi_rem (a := x2) (b := 800) (by omega) (by omega)]
    exact J2 (x2 % 800) (by omega)
  intro d2 hd2
  refine yy_fin.steps (n := 13) (s' := (158, [some (.ref 1), some (.ref w), some (.ref 0), some (.int (Int32.ofInt fr)), some (.int (Int32.ofInt ((g0 541 0).toInt))), some (.int (Int32.ofInt 2)), some (.int (Int32.ofInt x2)), some (.int (Int32.ofInt d2)), none, none, none, none, none, none, none, none, none, none, none, none, none, none, none, none, none, none, none, none, none, none, none], [.int (Int32.ofInt 800), .int (Int32.ofInt x2), .int (((Int32.ofInt fr) + (Int32.ofInt 3)) + ((Int32.ofInt 7) * (Int32.ofInt 2))), .ref 0, .ref w, .ref 1], h103)) rfl ?_
  rw [yi_add fr 3]
  rw [yi_mul 7 2]
  rw [yi_add (fr + 3) (7 * 2)]
  refine yy_fin.dv rfl (by decide) ?_
  rw [yi_div (a := x2) (b := 800) (by omega) (by omega)]
  refine yy_fin.steps (n := 1) (s' := (161, [some (.ref 1), some (.ref w), some (.ref 0), some (.int (Int32.ofInt fr)), some (.int (Int32.ofInt ((g0 541 0).toInt))), some (.int (Int32.ofInt 2)), some (.int (Int32.ofInt x2)), some (.int (Int32.ofInt d2)), none, none, none, none, none, none, none, none, none, none, none, none, none, none, none, none, none, none, none, none, none, none, none], [.int (Int32.ofInt ((g0 541 0).toInt)), .int (Int32.ofInt (x2 / 800)), .int (Int32.ofInt ((fr + 3) + (7 * 2))), .ref 0, .ref w, .ref 1], h103)) rfl ?_
  refine yy_fin.rm rfl (fun z => by have z := (yi_eq (a := ((g0 541 0).toInt)) (b := 0) (by omega) (by omega)).mp z; omega) ?_
  rw [yi_rem (a := x2 / 800) (b := ((g0 541 0).toInt)) (by omega) (by omega)]
  have hm2 : 0 ≤ (x2 / 800) % ((g0 541 0).toInt) ∧ (x2 / 800) % ((g0 541 0).toInt) < (g0 541 0).toInt := ⟨Int.emod_nonneg _ (by omega), Int.emod_lt_of_pos _ (by omega)⟩
  obtain ⟨m2, em2⟩ : ∃ m : Nat, (x2 / 800) % ((g0 541 0).toInt) = m := ⟨((x2 / 800) % ((g0 541 0).toInt)).toNat, by omega⟩
  rw [em2]
  rw [em2] at hm2
  refine yy_fin.steps (n := 1) (s' := (164, [some (.ref 1), some (.ref w), some (.ref 0), some (.int (Int32.ofInt fr)), some (.int (Int32.ofInt ((g0 541 0).toInt))), some (.int (Int32.ofInt 2)), some (.int (Int32.ofInt x2)), some (.int (Int32.ofInt d2)), none, none, none, none, none, none, none, none, none, none, none, none, none, none, none, none, none, none, none, none, none, none, none], [.int (Int32.ofInt d2), .int (Int32.ofInt (m2 : Int)), .int (Int32.ofInt ((fr + 3) + (7 * 2))), .ref 0, .ref w, .ref 1], h103)) rfl ?_
  refine yy_fin.calls (as := [.ref 1, .ref w, .ref 0, .int (Int32.ofInt ((fr + 3) + (7 * 2))), .int (Int32.ofInt (m2 : Int)), .int (Int32.ofInt d2)]) rfl (by decide) rfl rfl (Nat.le_of_ble_eq_true rfl) (Nat.le_of_ble_eq_true rfl) (yl_days F hm2.2 hd2 hX hL (by omega) C (by omega)) ?_
  rintro v h104 ⟨rfl, g104, C, x104⟩
  have hx104 := x104.1
  replace Y := Y.tr x104 (fun _ _ e => e)
  replace hY := Y.1
  refine yy_fin.if rfl (fun cK => ?_) (fun cK => absurd (by decide) cK)
  refine yy_fin.steps (n := 4) (s' := (91, [some (.ref 1), some (.ref w), some (.ref 0), some (.int (Int32.ofInt fr)), some (.int (Int32.ofInt ((g0 541 0).toInt))), some (.int ((Int32.ofInt 2) + (Int32.ofInt 1))), some (.int (Int32.ofInt x2)), some (.int (Int32.ofInt d2)), none, none, none, none, none, none, none, none, none, none, none, none, none, none, none, none, none, none, none, none, none, none, none], [.int (Int32.ofInt 3), .int ((Int32.ofInt 2) + (Int32.ofInt 1))], h104)) rfl ?_
  rw [show (Int32.ofInt 2) + (Int32.ofInt 1) = Int32.ofInt 3 from by decide]
  refine yy_fin.ic rfl (fun cK => ?_) (fun cK => absurd (by decide) cK)
  exact kk _ _ _ _ C (Y.le (by omega) (by omega))
end YD26
