/-! THE LAW ASKS OF MANY DAYS (298): candle, alike (printed by wip/p54/w16.py) -/
theorem cd_g_out {a : Nat → Int32} {t : Nat} {d left : Int} (hd : 36000 ≤ d) : ∀ n, cd_g a t n d left = -2
  | 0 => rfl
  | n + 1 => if_pos (by omega)
theorem al_g_out {a : Nat → Int32} {t : Nat} {d v : Int} (hd : 36000 ≤ d) : ∀ n, al_g a t v n d = -2
  | 0 => rfl
  | n + 1 => if_pos (by omega)
theorem cd_g_c {a : Nat → Int32} {t n : Nat} {d left : Int} (hd : d ≤ 35999) : cd_g a t (n + 1) d left = if s_l a t d = -1 then cd_g a t n (d + 1) left else if left ≤ s_l a t d / 12 then d else cd_g a t n (d + 1) (left - s_l a t d / 12) := if_neg (by omega)
theorem al_g_c {a : Nat → Int32} {t n : Nat} {d v : Int} (hd : d ≤ 35999) : al_g a t v (n + 1) d = if s_l a t d = v then d else al_g a t v n (d + 1) := if_neg (by omega)
section YD16
variable {X : yy_X} {own : yOwn} {w t L : Nat} {xs : Nat → Int32} {lst : List (yBell × List fl_T)} {g0 g : aa_G} {h h0 : zz_H} {day fr : Int} {φ : Option Value → zz_H → Prop}
theorem yl_li (F : yCf own w lst g0) (ht : (t : Int) < (g0 541 0).toInt) (hd : 0 ≤ day ∧ day ≤ 35999) {A E : Nat} {CF AF one i18 : Int} {x6 x7 x8 x9 x10 x11 x12 x13 x14 x15 x16 x17 : Option Value} (hR : h0.1.1 + A + 100 < yy_B) (ho : 0 ≤ one ∧ one ≤ 35999) (h1 : 1 ≤ s_l (g0 541) t one) (kk : ∀ h' left' d' x24, yCx own w lst g0 h' g → yx (yAk w) A E h0 h' → yy_fin X 298 (777, [some (.ref 1), some (.ref w), some (.ref 0), some (.int (Int32.ofInt fr)), some (.int (Int32.ofInt (t : Int))), some (.int (Int32.ofInt day)), x6, x7, x8, x9, x10, x11, x12, x13, x14, x15, x16, x17, some (.int (Int32.ofInt i18)), some (.int (Int32.ofInt one)), some (.int (Int32.ofInt left')), some (.int (Int32.ofInt CF)), some (.int (Int32.ofInt AF)), some (.int (Int32.ofInt d')), x24, none, none, none], [], h') φ) : ∀ (n : Nat) (d : Int) (h : zz_H) (left cnd alk : Int) (x24 : Option Value) (a e : Nat), d + n = day + 360 → day ≤ d → (0 ≤ left ∧ left ≤ 86399) → (-2 ≤ cnd ∧ cnd ≤ 40000) → (-2 ≤ alk ∧ alk ≤ 40000) → (if cnd = -2 then cd_g (g0 541) t n d left else cnd) = CF → (if alk = -2 then al_g (g0 541) t (s_l (g0 541) t one) n d else alk) = AF → yCx own w lst g0 h g → yx (yAk w) a e h0 h → a + 6 * n ≤ A → e + 12 * n ≤ E → yy_fin X 298 (666, [some (.ref 1), some (.ref w), some (.ref 0), some (.int (Int32.ofInt fr)), some (.int (Int32.ofInt (t : Int))), some (.int (Int32.ofInt day)), x6, x7, x8, x9, x10, x11, x12, x13, x14, x15, x16, x17, some (.int (Int32.ofInt i18)), some (.int (Int32.ofInt one)), some (.int (Int32.ofInt left)), some (.int (Int32.ofInt cnd)), some (.int (Int32.ofInt alk)), some (.int (Int32.ofInt d)), x24, none, none, none], [], h) φ
  | 0, d, h, left, cnd, alk, x24, a, e, hn, hdd, hl, hc, ha, eC, eA, C, Y, hA, hE => by
    have n4 := F.2.2.2.1
    have hq := F.2.2.2.2.1
    have hY := Y.1
    have hg := C.2.1.2
    have l8 := F.2.2.1.2.1
    have lo := s_l_b (d := one) F.2.2.2 ht
    have ld := s_l_b (d := d) F.2.2.2 ht
    have fC : cnd = CF := by rw [← eC]; split <;> first | rfl | (rename_i q; exact q)
    have fA : alk = AF := by rw [← eA]; split <;> first | rfl | (rename_i q; exact q)
    refine yy_fin.steps (n := 4) (s' := (674, [some (.ref 1), some (.ref w), some (.ref 0), some (.int (Int32.ofInt fr)), some (.int (Int32.ofInt (t : Int))), some (.int (Int32.ofInt day)), x6, x7, x8, x9, x10, x11, x12, x13, x14, x15, x16, x17, some (.int (Int32.ofInt i18)), some (.int (Int32.ofInt one)), some (.int (Int32.ofInt left)), some (.int (Int32.ofInt cnd)), some (.int (Int32.ofInt alk)), some (.int (Int32.ofInt d)), x24, none, none, none], [.int ((Int32.ofInt day) + (Int32.ofInt 360)), .int (Int32.ofInt d)], h)) rfl ?_
    rw [yi_add day 360]
    refine yy_fin.ic rfl (fun cq => ?_) (fun cq => absurd ((yi_c_ge (a := d) (b := day + 360) (by omega) (by omega)).mpr (by omega)) cq)
    have cq := (yi_c_ge (a := d) (b := day + 360) (by omega) (by omega)).mp cq
    obtain rfl := fC
    obtain rfl := fA
    exact kk _ _ _ _ C (Y.le (by omega) (by omega))
  | n + 1, d, h, left, cnd, alk, x24, a, e, hn, hdd, hl, hc, ha, eC, eA, C, Y, hA, hE => by
    have n4 := F.2.2.2.1
    have hq := F.2.2.2.2.1
    have hY := Y.1
    have hg := C.2.1.2
    have l8 := F.2.2.1.2.1
    have lo := s_l_b (d := one) F.2.2.2 ht
    have ld := s_l_b (d := d) F.2.2.2 ht
    refine yy_fin.steps (n := 4) (s' := (674, [some (.ref 1), some (.ref w), some (.ref 0), some (.int (Int32.ofInt fr)), some (.int (Int32.ofInt (t : Int))), some (.int (Int32.ofInt day)), x6, x7, x8, x9, x10, x11, x12, x13, x14, x15, x16, x17, some (.int (Int32.ofInt i18)), some (.int (Int32.ofInt one)), some (.int (Int32.ofInt left)), some (.int (Int32.ofInt cnd)), some (.int (Int32.ofInt alk)), some (.int (Int32.ofInt d)), x24, none, none, none], [.int ((Int32.ofInt day) + (Int32.ofInt 360)), .int (Int32.ofInt d)], h)) rfl ?_
    rw [yi_add day 360]
    refine yy_fin.ic rfl (fun cq => absurd ((yi_c_ge (a := d) (b := day + 360) (by omega) (by omega)).mp cq) (by omega)) (fun cq => ?_)
    have cq := mt (yi_c_ge (a := d) (b := day + 360) (by omega) (by omega)).mpr cq
    refine yy_fin.steps (n := 2) (s' := (681, [some (.ref 1), some (.ref w), some (.ref 0), some (.int (Int32.ofInt fr)), some (.int (Int32.ofInt (t : Int))), some (.int (Int32.ofInt day)), x6, x7, x8, x9, x10, x11, x12, x13, x14, x15, x16, x17, some (.int (Int32.ofInt i18)), some (.int (Int32.ofInt one)), some (.int (Int32.ofInt left)), some (.int (Int32.ofInt cnd)), some (.int (Int32.ofInt alk)), some (.int (Int32.ofInt d)), x24, none, none, none], [.int (Int32.ofInt 36000), .int (Int32.ofInt d)], h)) rfl ?_
    refine yy_fin.ic rfl (fun c101 => ?_) (fun c101 => ?_)
    · have c101 := (yi_c_ge (a := d) (b := 36000) (by omega) (by omega)).mp c101
      have fC : cnd = CF := by rw [← eC, cd_g_out (by omega)]; split <;> first | rfl | (rename_i q; exact q)
      have fA : alk = AF := by rw [← eA, al_g_out (by omega)]; split <;> first | rfl | (rename_i q; exact q)
      obtain rfl := fC
      obtain rfl := fA
      exact kk _ _ _ _ C (Y.le (by omega) (by omega))
    · have c101 := mt (yi_c_ge (a := d) (b := 36000) (by omega) (by omega)).mpr c101
      refine yy_fin.steps (n := 1) (s' := (686, [some (.ref 1), some (.ref w), some (.ref 0), some (.int (Int32.ofInt fr)), some (.int (Int32.ofInt (t : Int))), some (.int (Int32.ofInt day)), x6, x7, x8, x9, x10, x11, x12, x13, x14, x15, x16, x17, some (.int (Int32.ofInt i18)), some (.int (Int32.ofInt one)), some (.int (Int32.ofInt left)), some (.int (Int32.ofInt cnd)), some (.int (Int32.ofInt alk)), some (.int (Int32.ofInt d)), x24, none, none, none], [.int (Int32.ofInt left)], h)) rfl ?_
      refine yy_fin.if rfl (fun cq => absurd ((yi_z_lt (a := left) (by omega)).mp cq) (by omega)) (fun cq => ?_)
      have cq := mt (yi_z_lt (a := left) (by omega)).mpr cq
      refine yy_fin.steps (n := 3) (s' := (694, [some (.ref 1), some (.ref w), some (.ref 0), some (.int (Int32.ofInt fr)), some (.int (Int32.ofInt (t : Int))), some (.int (Int32.ofInt day)), x6, x7, x8, x9, x10, x11, x12, x13, x14, x15, x16, x17, some (.int (Int32.ofInt i18)), some (.int (Int32.ofInt one)), some (.int (Int32.ofInt left)), some (.int (Int32.ofInt cnd)), some (.int (Int32.ofInt alk)), some (.int (Int32.ofInt d)), x24, none, none, none], [.int (Int32.ofInt d), .int (Int32.ofInt (t : Int)), .ref w], h)) rfl ?_
      obtain ⟨fw102, oW102⟩ := C.ow
      refine yy_fin.cv (as := [.int (Int32.ofInt (t : Int)), .int (Int32.ofInt d)]) rfl rfl rfl oW102 (Nat.le_of_ble_eq_true rfl) (Nat.le_of_ble_eq_true rfl) (yc_light2 F C ht (d := d) (by omega) (by omega)) ?_
      rintro v h102 ⟨rfl, C, x102⟩
      have hx102 := x102.1
      replace Y := Y.tr x102 (fun _ _ e => e)
      replace hY := Y.1
      refine yy_fin.steps (n := 2) (s' := (701, [some (.ref 1), some (.ref w), some (.ref 0), some (.int (Int32.ofInt fr)), some (.int (Int32.ofInt (t : Int))), some (.int (Int32.ofInt day)), x6, x7, x8, x9, x10, x11, x12, x13, x14, x15, x16, x17, some (.int (Int32.ofInt i18)), some (.int (Int32.ofInt one)), some (.int (Int32.ofInt left)), some (.int (Int32.ofInt cnd)), some (.int (Int32.ofInt alk)), some (.int (Int32.ofInt d)), some (.int (Int32.ofInt (s_l (g0 541) t d))), none, none, none], [.int (Int32.ofInt (s_l (g0 541) t d))], h102)) rfl ?_
      refine yy_fin.if rfl (fun c103 => ?_) (fun c103 => ?_)
      · have c103 := (yi_z_ge (a := s_l (g0 541) t d) (by omega)).mp c103
        refine yy_fin.steps (n := 2) (s' := (711, [some (.ref 1), some (.ref w), some (.ref 0), some (.int (Int32.ofInt fr)), some (.int (Int32.ofInt (t : Int))), some (.int (Int32.ofInt day)), x6, x7, x8, x9, x10, x11, x12, x13, x14, x15, x16, x17, some (.int (Int32.ofInt i18)), some (.int (Int32.ofInt one)), some (.int (Int32.ofInt left)), some (.int (Int32.ofInt cnd)), some (.int (Int32.ofInt alk)), some (.int (Int32.ofInt d)), some (.int (Int32.ofInt (s_l (g0 541) t d))), none, none, none], [.int (Int32.ofInt (-2)), .int (Int32.ofInt alk)], h102)) rfl ?_
        suffices J104 : ∀ (v104 : Int) (h' : zz_H), v104 = (if alk = -2 ∧ s_l (g0 541) t d = s_l (g0 541) t one then d else alk) → yCx own w lst g0 h' g → yx (yAk w) (a + 6) (e + 12) h0 h' → yy_fin X 298 (734, [some (.ref 1), some (.ref w), some (.ref 0), some (.int (Int32.ofInt fr)), some (.int (Int32.ofInt (t : Int))), some (.int (Int32.ofInt day)), x6, x7, x8, x9, x10, x11, x12, x13, x14, x15, x16, x17, some (.int (Int32.ofInt i18)), some (.int (Int32.ofInt one)), some (.int (Int32.ofInt left)), some (.int (Int32.ofInt cnd)), some (.int (Int32.ofInt alk)), some (.int (Int32.ofInt d)), some (.int (Int32.ofInt (s_l (g0 541) t d))), none, none, none], [.int (Int32.ofInt v104)], h') φ by
          refine yy_fin.ic rfl (fun c105 => ?_) (fun c105 => ?_)
          · have c105 := (yi_c_ne (a := alk) (b := -2) (by omega) (by omega)).mp c105
            refine yy_fin.steps (n := 1) (s' := (734, [some (.ref 1), some (.ref w), some (.ref 0), some (.int (Int32.ofInt fr)), some (.int (Int32.ofInt (t : Int))), some (.int (Int32.ofInt day)), x6, x7, x8, x9, x10, x11, x12, x13, x14, x15, x16, x17, some (.int (Int32.ofInt i18)), some (.int (Int32.ofInt one)), some (.int (Int32.ofInt left)), some (.int (Int32.ofInt cnd)), some (.int (Int32.ofInt alk)), some (.int (Int32.ofInt d)), some (.int (Int32.ofInt (s_l (g0 541) t d))), none, none, none], [.int (Int32.ofInt alk)], h102)) rfl ?_
            exact J104 (alk) _ (by rw [if_neg (by omega)]) C (Y.le (by omega) (by omega))
          · have c105 := mt (yi_c_ne (a := alk) (b := -2) (by omega) (by omega)).mpr c105
            refine yy_fin.steps (n := 4) (s' := (721, [some (.ref 1), some (.ref w), some (.ref 0), some (.int (Int32.ofInt fr)), some (.int (Int32.ofInt (t : Int))), some (.int (Int32.ofInt day)), x6, x7, x8, x9, x10, x11, x12, x13, x14, x15, x16, x17, some (.int (Int32.ofInt i18)), some (.int (Int32.ofInt one)), some (.int (Int32.ofInt left)), some (.int (Int32.ofInt cnd)), some (.int (Int32.ofInt alk)), some (.int (Int32.ofInt d)), some (.int (Int32.ofInt (s_l (g0 541) t d))), none, none, none], [.int (Int32.ofInt one), .int (Int32.ofInt (t : Int)), .ref w, .int (Int32.ofInt (s_l (g0 541) t d))], h102)) rfl ?_
            obtain ⟨fw106, oW106⟩ := C.ow
            refine yy_fin.cv (as := [.int (Int32.ofInt (t : Int)), .int (Int32.ofInt one)]) rfl rfl rfl oW106 (Nat.le_of_ble_eq_true rfl) (Nat.le_of_ble_eq_true rfl) (yc_light2 F C ht (d := one) (by omega) (by omega)) ?_
            rintro v h106 ⟨rfl, C, x106⟩
            have hx106 := x106.1
            replace Y := Y.tr x106 (fun _ _ e => e)
            replace hY := Y.1
            refine yy_fin.ic rfl (fun c107 => ?_) (fun c107 => ?_)
            · have c107 := (yi_c_ne (a := s_l (g0 541) t d) (b := s_l (g0 541) t one) (by omega) (by omega)).mp c107
              refine yy_fin.steps (n := 1) (s' := (734, [some (.ref 1), some (.ref w), some (.ref 0), some (.int (Int32.ofInt fr)), some (.int (Int32.ofInt (t : Int))), some (.int (Int32.ofInt day)), x6, x7, x8, x9, x10, x11, x12, x13, x14, x15, x16, x17, some (.int (Int32.ofInt i18)), some (.int (Int32.ofInt one)), some (.int (Int32.ofInt left)), some (.int (Int32.ofInt cnd)), some (.int (Int32.ofInt alk)), some (.int (Int32.ofInt d)), some (.int (Int32.ofInt (s_l (g0 541) t d))), none, none, none], [.int (Int32.ofInt alk)], h106)) rfl ?_
              exact J104 (alk) _ (by rw [if_neg (by omega)]) C (Y.le (by omega) (by omega))
            · have c107 := mt (yi_c_ne (a := s_l (g0 541) t d) (b := s_l (g0 541) t one) (by omega) (by omega)).mpr c107
              refine yy_fin.steps (n := 2) (s' := (734, [some (.ref 1), some (.ref w), some (.ref 0), some (.int (Int32.ofInt fr)), some (.int (Int32.ofInt (t : Int))), some (.int (Int32.ofInt day)), x6, x7, x8, x9, x10, x11, x12, x13, x14, x15, x16, x17, some (.int (Int32.ofInt i18)), some (.int (Int32.ofInt one)), some (.int (Int32.ofInt left)), some (.int (Int32.ofInt cnd)), some (.int (Int32.ofInt alk)), some (.int (Int32.ofInt d)), some (.int (Int32.ofInt (s_l (g0 541) t d))), none, none, none], [.int (Int32.ofInt d)], h106)) rfl ?_
              exact J104 (d) _ (by rw [if_pos (by omega)]) C (Y.le (by omega) (by omega))
        intro v104 h104 ev104 C Y
        replace hY := Y.1
        have ha2 : -2 ≤ v104 ∧ v104 ≤ 40000 := by rw [ev104]; split <;> omega
        refine yy_fin.steps (n := 3) (s' := (740, [some (.ref 1), some (.ref w), some (.ref 0), some (.int (Int32.ofInt fr)), some (.int (Int32.ofInt (t : Int))), some (.int (Int32.ofInt day)), x6, x7, x8, x9, x10, x11, x12, x13, x14, x15, x16, x17, some (.int (Int32.ofInt i18)), some (.int (Int32.ofInt one)), some (.int (Int32.ofInt left)), some (.int (Int32.ofInt cnd)), some (.int (Int32.ofInt v104)), some (.int (Int32.ofInt d)), some (.int (Int32.ofInt (s_l (g0 541) t d))), none, none, none], [.int (Int32.ofInt (-2)), .int (Int32.ofInt cnd)], h104)) rfl ?_
        suffices J108 : ∀ c108 : Int, c108 = (if cnd = -2 ∧ left ≤ s_l (g0 541) t d / 12 then d else cnd) → yy_fin X 298 (757, [some (.ref 1), some (.ref w), some (.ref 0), some (.int (Int32.ofInt fr)), some (.int (Int32.ofInt (t : Int))), some (.int (Int32.ofInt day)), x6, x7, x8, x9, x10, x11, x12, x13, x14, x15, x16, x17, some (.int (Int32.ofInt i18)), some (.int (Int32.ofInt one)), some (.int (Int32.ofInt left)), some (.int (Int32.ofInt c108)), some (.int (Int32.ofInt v104)), some (.int (Int32.ofInt d)), some (.int (Int32.ofInt (s_l (g0 541) t d))), none, none, none], [], h104) φ by
          refine yy_fin.ic rfl (fun c109 => ?_) (fun c109 => ?_)
          · have c109 := (yi_c_ne (a := cnd) (b := -2) (by omega) (by omega)).mp c109
            exact J108 (cnd) (by rw [if_neg (by omega)])
          · have c109 := mt (yi_c_ne (a := cnd) (b := -2) (by omega) (by omega)).mpr c109
            refine yy_fin.steps (n := 3) (s' := (749, [some (.ref 1), some (.ref w), some (.ref 0), some (.int (Int32.ofInt fr)), some (.int (Int32.ofInt (t : Int))), some (.int (Int32.ofInt day)), x6, x7, x8, x9, x10, x11, x12, x13, x14, x15, x16, x17, some (.int (Int32.ofInt i18)), some (.int (Int32.ofInt one)), some (.int (Int32.ofInt left)), some (.int (Int32.ofInt cnd)), some (.int (Int32.ofInt v104)), some (.int (Int32.ofInt d)), some (.int (Int32.ofInt (s_l (g0 541) t d))), none, none, none], [.int (Int32.ofInt 12), .int (Int32.ofInt (s_l (g0 541) t d)), .int (Int32.ofInt left)], h104)) rfl ?_
            refine yy_fin.dv rfl (by decide) ?_
            rw [yi_div (a := s_l (g0 541) t d) (b := 12) (by omega) (by omega)]
            refine yy_fin.ic rfl (fun c110 => ?_) (fun c110 => ?_)
            · have c110 := (yi_c_gt (a := left) (b := (s_l (g0 541) t d) / 12) (by omega) (by omega)).mp c110
              exact J108 (cnd) (by rw [if_neg (by omega)])
            · have c110 := mt (yi_c_gt (a := left) (b := (s_l (g0 541) t d) / 12) (by omega) (by omega)).mpr c110
              refine yy_fin.steps (n := 2) (s' := (757, [some (.ref 1), some (.ref w), some (.ref 0), some (.int (Int32.ofInt fr)), some (.int (Int32.ofInt (t : Int))), some (.int (Int32.ofInt day)), x6, x7, x8, x9, x10, x11, x12, x13, x14, x15, x16, x17, some (.int (Int32.ofInt i18)), some (.int (Int32.ofInt one)), some (.int (Int32.ofInt left)), some (.int (Int32.ofInt d)), some (.int (Int32.ofInt v104)), some (.int (Int32.ofInt d)), some (.int (Int32.ofInt (s_l (g0 541) t d))), none, none, none], [], h104)) rfl ?_
              exact J108 (d) (by rw [if_pos (by omega)])
        intro c108 ec108
        have hc2 : -2 ≤ c108 ∧ c108 ≤ 40000 := by rw [ec108]; split <;> omega
        refine yy_fin.steps (n := 4) (s' := (764, [some (.ref 1), some (.ref w), some (.ref 0), some (.int (Int32.ofInt fr)), some (.int (Int32.ofInt (t : Int))), some (.int (Int32.ofInt day)), x6, x7, x8, x9, x10, x11, x12, x13, x14, x15, x16, x17, some (.int (Int32.ofInt i18)), some (.int (Int32.ofInt one)), some (.int (Int32.ofInt left)), some (.int (Int32.ofInt c108)), some (.int (Int32.ofInt v104)), some (.int (Int32.ofInt d)), some (.int (Int32.ofInt (s_l (g0 541) t d))), none, none, none], [.int (Int32.ofInt 12), .int (Int32.ofInt (s_l (g0 541) t d)), .int (Int32.ofInt left), .int (Int32.ofInt 0)], h104)) rfl ?_
        refine yy_fin.dv rfl (by decide) ?_
        rw [yi_div (a := s_l (g0 541) t d) (b := 12) (by omega) (by omega)]
        refine yy_fin.steps (n := 5) (s' := (666, [some (.ref 1), some (.ref w), some (.ref 0), some (.int (Int32.ofInt fr)), some (.int (Int32.ofInt (t : Int))), some (.int (Int32.ofInt day)), x6, x7, x8, x9, x10, x11, x12, x13, x14, x15, x16, x17, some (.int (Int32.ofInt i18)), some (.int (Int32.ofInt one)), some (.int (if (Int32.ofInt 0) < ((Int32.ofInt left) - (Int32.ofInt ((s_l (g0 541) t d) / 12))) then ((Int32.ofInt left) - (Int32.ofInt ((s_l (g0 541) t d) / 12))) else (Int32.ofInt 0))), some (.int (Int32.ofInt c108)), some (.int (Int32.ofInt v104)), some (.int ((Int32.ofInt d) + (Int32.ofInt 1))), some (.int (Int32.ofInt (s_l (g0 541) t d))), none, none, none], [], h104)) rfl ?_
        rw [yi_sub left ((s_l (g0 541) t d) / 12)]
        rw [yi_max (a := 0) (b := left - ((s_l (g0 541) t d) / 12)) (by omega) (by omega)]
        rw [yi_add d 1]
        have e1 : ¬ s_l (g0 541) t d = -1 := by omega
        refine yl_li F ht hd hR ho h1 kk n (d + 1) _ _ _ _ _ _ _ (by omega) (by omega) (by omega) hc2 ha2 ?_ ?_ C Y (by omega) (by omega)
        · by_cases q1 : cnd = -2
          · by_cases q2 : left ≤ s_l (g0 541) t d / 12
            · have k : c108 = d := by rw [ec108, if_pos ⟨q1, q2⟩]
              rw [k, if_neg (show ¬ d = -2 by omega), ← eC, if_pos q1, cd_g_c (by omega), if_neg e1, if_pos q2]
            · have k : c108 = cnd := by rw [ec108, if_neg (fun z => q2 z.2)]
              rw [k, if_pos q1, ← eC, if_pos q1, cd_g_c (by omega), if_neg e1, if_neg q2, show max 0 (left - s_l (g0 541) t d / 12) = left - s_l (g0 541) t d / 12 by omega]
          · have k : c108 = cnd := by rw [ec108, if_neg (fun z => q1 z.1)]
            rw [k, if_neg q1, ← eC, if_neg q1]
        · by_cases q1 : alk = -2
          · by_cases q2 : s_l (g0 541) t d = s_l (g0 541) t one
            · have k : v104 = d := by rw [ev104, if_pos ⟨q1, q2⟩]
              rw [k, if_neg (show ¬ d = -2 by omega), ← eA, if_pos q1, al_g_c (by omega), if_pos q2]
            · have k : v104 = alk := by rw [ev104, if_neg (fun z => q2 z.2)]
              rw [k, if_pos q1, ← eA, if_pos q1, al_g_c (by omega), if_neg q2]
          · have k : v104 = alk := by rw [ev104, if_neg (fun z => q1 z.1)]
            rw [k, if_neg q1, ← eA, if_neg q1]
      · have c103 := mt (yi_z_ge (a := s_l (g0 541) t d) (by omega)).mpr c103
        refine yy_fin.steps (n := 3) (s' := (666, [some (.ref 1), some (.ref w), some (.ref 0), some (.int (Int32.ofInt fr)), some (.int (Int32.ofInt (t : Int))), some (.int (Int32.ofInt day)), x6, x7, x8, x9, x10, x11, x12, x13, x14, x15, x16, x17, some (.int (Int32.ofInt i18)), some (.int (Int32.ofInt one)), some (.int (Int32.ofInt left)), some (.int (Int32.ofInt cnd)), some (.int (Int32.ofInt alk)), some (.int ((Int32.ofInt d) + (Int32.ofInt 1))), some (.int (Int32.ofInt (s_l (g0 541) t d))), none, none, none], [], h102)) rfl ?_
        rw [yi_add d 1]
        have e1 : s_l (g0 541) t d = -1 := by omega
        exact yl_li F ht hd hR ho h1 kk n (d + 1) _ _ _ _ _ _ _ (by omega) (by omega) hl hc ha (by rw [← eC, cd_g_c (by omega), if_pos e1]) (by rw [← eA, al_g_c (by omega), if_neg (show ¬ s_l (g0 541) t d = s_l (g0 541) t one by omega)]) C Y (by omega) (by omega)
theorem yl_lh (F : yCf own w lst g0) (ht : (t : Int) < (g0 541 0).toInt) (hd : 0 ≤ day ∧ day ≤ 35999) (hX : X.1 = some (L, xs)) (hL : L ≤ 100000) (hfr : 0 ≤ fr ∧ fr ≤ 900000) {a e : Nat} {i18 : Int} {x6 x7 x8 x9 x10 x11 x12 x13 x14 x15 x16 x17 x19 x20 x21 x22 : Option Value} (C : yCx own w lst g0 h g) (Y : yx (yAk w) a e h0 h) (hR : h0.1.1 + a + 2300 < yy_B) (kk : ∀ h' g' x19 x20 x21 i22 x23 x24, yCx own w lst g0 h' g' → yx (yAk w) (a + 2170) (e + 4340) h0 h' → yy_fin X 298 (809, [some (.ref 1), some (.ref w), some (.ref 0), some (.int (Int32.ofInt fr)), some (.int (Int32.ofInt (t : Int))), some (.int (Int32.ofInt day)), x6, x7, x8, x9, x10, x11, x12, x13, x14, x15, x16, x17, some (.int (Int32.ofInt i18)), x19, x20, x21, some (.int (Int32.ofInt i22)), x23, x24, none, none, none], [], h') φ) : yy_fin X 298 (631, [some (.ref 1), some (.ref w), some (.ref 0), some (.int (Int32.ofInt fr)), some (.int (Int32.ofInt (t : Int))), some (.int (Int32.ofInt day)), x6, x7, x8, x9, x10, x11, x12, x13, x14, x15, x16, x17, some (.int (Int32.ofInt i18)), x19, x20, x21, x22, none, none, none, none, none], [], h) φ := by
  have n4 := F.2.2.2.1
  have hq := F.2.2.2.2.1
  have hY := Y.1
  have hg := C.2.1.2
  have l8 := F.2.2.1.2.1
  refine yy_fin.steps (n := 4) (s' := (635, [some (.ref 1), some (.ref w), some (.ref 0), some (.int (Int32.ofInt fr)), some (.int (Int32.ofInt (t : Int))), some (.int (Int32.ofInt day)), x6, x7, x8, x9, x10, x11, x12, x13, x14, x15, x16, x17, some (.int (Int32.ofInt i18)), x19, x20, x21, x22, none, none, none, none, none], [.int ((Int32.ofInt fr) + (Int32.ofInt 3)), .ref 0], h)) rfl ?_
  rw [yi_add fr 3]
  refine yy_fin.calls (as := [.ref 0, .int (Int32.ofInt (fr + 3))]) rfl (by decide) rfl rfl (Nat.le_of_ble_eq_true rfl) (Nat.le_of_ble_eq_true rfl) (yl_pick hX hL (k := fr + 3) (by omega)) ?_
  rintro v h9 ⟨x1, rfl, ax1, bx1, e9⟩
  obtain rfl := e9.symm
  refine yy_fin.steps (n := 1) (s' := (641, [some (.ref 1), some (.ref w), some (.ref 0), some (.int (Int32.ofInt fr)), some (.int (Int32.ofInt (t : Int))), some (.int (Int32.ofInt day)), x6, x7, x8, x9, x10, x11, x12, x13, x14, x15, x16, x17, some (.int (Int32.ofInt i18)), x19, x20, x21, x22, none, none, none, none, none], [.int (Int32.ofInt 400), .int (Int32.ofInt x1)], h)) rfl ?_
  refine yy_fin.rm rfl (by decide) ?_
  rw [yi_rem (a := x1) (b := 400) (by omega) (by omega)]
  obtain ⟨one, eone⟩ : ∃ z, z = x1 % 400 := ⟨_, rfl⟩
  rw [← eone]
  refine yy_fin.steps (n := 4) (s' := (649, [some (.ref 1), some (.ref w), some (.ref 0), some (.int (Int32.ofInt fr)), some (.int (Int32.ofInt (t : Int))), some (.int (Int32.ofInt day)), x6, x7, x8, x9, x10, x11, x12, x13, x14, x15, x16, x17, some (.int (Int32.ofInt i18)), some (.int (Int32.ofInt one)), x20, x21, x22, none, none, none, none, none], [.int (Int32.ofInt one), .int (Int32.ofInt (t : Int)), .ref w], h)) rfl ?_
  obtain ⟨fw101, oW101⟩ := C.ow
  refine yy_fin.cv (as := [.int (Int32.ofInt (t : Int)), .int (Int32.ofInt one)]) rfl rfl rfl oW101 (Nat.le_of_ble_eq_true rfl) (Nat.le_of_ble_eq_true rfl) (yc_light2 F C ht (d := one) (by omega) (by omega)) ?_
  rintro v h101 ⟨rfl, C, x101⟩
  have hx101 := x101.1
  replace Y := Y.tr x101 (fun _ _ e => e)
  replace hY := Y.1
  refine yy_fin.steps (n := 1) (s' := (654, [some (.ref 1), some (.ref w), some (.ref 0), some (.int (Int32.ofInt fr)), some (.int (Int32.ofInt (t : Int))), some (.int (Int32.ofInt day)), x6, x7, x8, x9, x10, x11, x12, x13, x14, x15, x16, x17, some (.int (Int32.ofInt i18)), some (.int (Int32.ofInt one)), some (.int (Int32.ofInt (s_l (g0 541) t one))), x21, x22, none, none, none, none, none], [], h101)) rfl ?_
  have lo := s_l_b (d := one) F.2.2.2 ht
  refine yy_fin.steps (n := 6) (s' := (666, [some (.ref 1), some (.ref w), some (.ref 0), some (.int (Int32.ofInt fr)), some (.int (Int32.ofInt (t : Int))), some (.int (Int32.ofInt day)), x6, x7, x8, x9, x10, x11, x12, x13, x14, x15, x16, x17, some (.int (Int32.ofInt i18)), some (.int (Int32.ofInt one)), some (.int (Int32.ofInt (s_l (g0 541) t one))), some (.int (Int32.ofInt (-2))), some (.int (Int32.ofInt (-2))), some (.int (Int32.ofInt day)), none, none, none, none], [], h101)) rfl ?_
  suffices J : ∀ (h' : zz_H) (left' d' : Int) (x24 : Option Value), yCx own w lst g0 h' g → yx (yAk w) (a + 2163) (e + 4326) h0 h' → yy_fin X 298 (777, [some (.ref 1), some (.ref w), some (.ref 0), some (.int (Int32.ofInt fr)), some (.int (Int32.ofInt (t : Int))), some (.int (Int32.ofInt day)), x6, x7, x8, x9, x10, x11, x12, x13, x14, x15, x16, x17, some (.int (Int32.ofInt i18)), some (.int (Int32.ofInt one)), some (.int (Int32.ofInt left')), some (.int (Int32.ofInt (s_126 (g0 541) t one day))), some (.int (Int32.ofInt (s_127 (g0 541) t one day))), some (.int (Int32.ofInt d')), x24, none, none, none], [], h') φ by
    rcases lo with lo | lo
    · have e6 : s_126 (g0 541) t one day = -2 := if_pos lo
      have e7 : s_127 (g0 541) t one day = -2 := if_pos lo
      rw [e6, e7] at J
      refine yy_fin.steps (n := 4) (s' := (674, [some (.ref 1), some (.ref w), some (.ref 0), some (.int (Int32.ofInt fr)), some (.int (Int32.ofInt (t : Int))), some (.int (Int32.ofInt day)), x6, x7, x8, x9, x10, x11, x12, x13, x14, x15, x16, x17, some (.int (Int32.ofInt i18)), some (.int (Int32.ofInt one)), some (.int (Int32.ofInt (s_l (g0 541) t one))), some (.int (Int32.ofInt (-2))), some (.int (Int32.ofInt (-2))), some (.int (Int32.ofInt day)), none, none, none, none], [.int ((Int32.ofInt day) + (Int32.ofInt 360)), .int (Int32.ofInt day)], h101)) rfl ?_
      rw [yi_add day 360]
      refine yy_fin.ic rfl (fun cq => absurd ((yi_c_ge (a := day) (b := day + 360) (by omega) (by omega)).mp cq) (by omega)) (fun cq => ?_)
      have cq := mt (yi_c_ge (a := day) (b := day + 360) (by omega) (by omega)).mpr cq
      refine yy_fin.steps (n := 2) (s' := (681, [some (.ref 1), some (.ref w), some (.ref 0), some (.int (Int32.ofInt fr)), some (.int (Int32.ofInt (t : Int))), some (.int (Int32.ofInt day)), x6, x7, x8, x9, x10, x11, x12, x13, x14, x15, x16, x17, some (.int (Int32.ofInt i18)), some (.int (Int32.ofInt one)), some (.int (Int32.ofInt (s_l (g0 541) t one))), some (.int (Int32.ofInt (-2))), some (.int (Int32.ofInt (-2))), some (.int (Int32.ofInt day)), none, none, none, none], [.int (Int32.ofInt 36000), .int (Int32.ofInt day)], h101)) rfl ?_
      refine yy_fin.ic rfl (fun cq => absurd ((yi_c_ge (a := day) (b := 36000) (by omega) (by omega)).mp cq) (by omega)) (fun cq => ?_)
      have cq := mt (yi_c_ge (a := day) (b := 36000) (by omega) (by omega)).mpr cq
      refine yy_fin.steps (n := 1) (s' := (686, [some (.ref 1), some (.ref w), some (.ref 0), some (.int (Int32.ofInt fr)), some (.int (Int32.ofInt (t : Int))), some (.int (Int32.ofInt day)), x6, x7, x8, x9, x10, x11, x12, x13, x14, x15, x16, x17, some (.int (Int32.ofInt i18)), some (.int (Int32.ofInt one)), some (.int (Int32.ofInt (s_l (g0 541) t one))), some (.int (Int32.ofInt (-2))), some (.int (Int32.ofInt (-2))), some (.int (Int32.ofInt day)), none, none, none, none], [.int (Int32.ofInt (s_l (g0 541) t one))], h101)) rfl ?_
      refine yy_fin.if rfl (fun cq => ?_) (fun cq => absurd ((yi_z_lt (a := s_l (g0 541) t one) (by omega)).mpr (by omega)) cq)
      have cq := (yi_z_lt (a := s_l (g0 541) t one) (by omega)).mp cq
      exact J _ _ _ _ C (Y.le (by omega) (by omega))
    · have hlo : ¬ s_l (g0 541) t one = -1 := by omega
      have h9 : h0.1.1 + (a + 2163) + 100 = h0.1.1 + a + 2263 := by rw [← Nat.add_assoc h0.1.1 a 2163]
      have hR2 : h0.1.1 + (a + 2163) + 100 < yy_B := by rw [h9]; exact Nat.lt_of_le_of_lt (Nat.add_le_add_left (by decide) _) hR
      exact yl_li F ht hd (A := a + 2163) (E := e + 4326) (CF := s_126 (g0 541) t one day) (AF := s_127 (g0 541) t one day) hR2 (by omega) lo.1 (fun h' left' d' x24 C Y => J h' left' d' x24 C Y) 360 day _ _ (-2) (-2) _ _ _ (by omega) (by omega) (by omega) (by omega) (by omega) (by unfold s_126; rw [if_pos rfl, if_neg hlo]) (by unfold s_127; rw [if_pos rfl, if_neg hlo]) C Y (by omega) (by omega)
  intro h7 left' d' x24 C Y
  replace hY := Y.1
  refine yy_fin.steps (n := 4) (s' := (784, [some (.ref 1), some (.ref w), some (.ref 0), some (.int (Int32.ofInt fr)), some (.int (Int32.ofInt (t : Int))), some (.int (Int32.ofInt day)), x6, x7, x8, x9, x10, x11, x12, x13, x14, x15, x16, x17, some (.int (Int32.ofInt i18)), some (.int (Int32.ofInt one)), some (.int (Int32.ofInt left')), some (.int (Int32.ofInt (s_126 (g0 541) t one day))), some (.int (Int32.ofInt (s_127 (g0 541) t one day))), some (.int (Int32.ofInt d')), x24, none, none, none], [.int (Int32.ofInt day), .int (Int32.ofInt one), .int (Int32.ofInt (t : Int)), .ref 1], h7)) rfl ?_
  obtain ⟨g103, r103⟩ := qi_126 F C ht (n := one) (day := day) (by omega) hd
  obtain ⟨fs103, oo103⟩ := C.o
  refine yy_fin.cv (as := [.int (Int32.ofInt (t : Int)), .int (Int32.ofInt one), .int (Int32.ofInt day)]) rfl rfl rfl oo103 (Nat.le_of_ble_eq_true rfl) (Nat.le_of_ble_eq_true rfl) r103 ?_
  rintro v h103 ⟨rfl, C, x103⟩
  have hx103 := x103.1
  replace Y := Y.tr x103 (fun _ _ e => e)
  replace hY := Y.1
  refine yy_fin.steps (n := 1) (s' := (789, [some (.ref 1), some (.ref w), some (.ref 0), some (.int (Int32.ofInt fr)), some (.int (Int32.ofInt (t : Int))), some (.int (Int32.ofInt day)), x6, x7, x8, x9, x10, x11, x12, x13, x14, x15, x16, x17, some (.int (Int32.ofInt i18)), some (.int (Int32.ofInt one)), some (.int (Int32.ofInt left')), some (.int (Int32.ofInt (s_126 (g0 541) t one day))), some (.int (Int32.ofInt (s_127 (g0 541) t one day))), some (.int (Int32.ofInt d')), x24, none, none, none], [.int (Int32.ofInt (s_126 (g0 541) t one day)), .int (Int32.ofInt (s_126 (g0 541) t one day))], h103)) rfl ?_
  refine yy_fin.ic rfl (fun cz => absurd (congrArg Int32.ofInt (rfl : s_126 (g0 541) t one day = s_126 (g0 541) t one day)) (y_cne cz)) (fun _ => ?_)
  refine yy_fin.steps (n := 4) (s' := (799, [some (.ref 1), some (.ref w), some (.ref 0), some (.int (Int32.ofInt fr)), some (.int (Int32.ofInt (t : Int))), some (.int (Int32.ofInt day)), x6, x7, x8, x9, x10, x11, x12, x13, x14, x15, x16, x17, some (.int (Int32.ofInt i18)), some (.int (Int32.ofInt one)), some (.int (Int32.ofInt left')), some (.int (Int32.ofInt (s_126 (g0 541) t one day))), some (.int (Int32.ofInt (s_127 (g0 541) t one day))), some (.int (Int32.ofInt d')), x24, none, none, none], [.int (Int32.ofInt day), .int (Int32.ofInt one), .int (Int32.ofInt (t : Int)), .ref 1], h103)) rfl ?_
  obtain ⟨g104, r104⟩ := qi_127 F C ht (n := one) (day := day) (by omega) hd
  obtain ⟨fs104, oo104⟩ := C.o
  refine yy_fin.cv (as := [.int (Int32.ofInt (t : Int)), .int (Int32.ofInt one), .int (Int32.ofInt day)]) rfl rfl rfl oo104 (Nat.le_of_ble_eq_true rfl) (Nat.le_of_ble_eq_true rfl) r104 ?_
  rintro v h104 ⟨rfl, C, x104⟩
  have hx104 := x104.1
  replace Y := Y.tr x104 (fun _ _ e => e)
  replace hY := Y.1
  refine yy_fin.steps (n := 1) (s' := (804, [some (.ref 1), some (.ref w), some (.ref 0), some (.int (Int32.ofInt fr)), some (.int (Int32.ofInt (t : Int))), some (.int (Int32.ofInt day)), x6, x7, x8, x9, x10, x11, x12, x13, x14, x15, x16, x17, some (.int (Int32.ofInt i18)), some (.int (Int32.ofInt one)), some (.int (Int32.ofInt left')), some (.int (Int32.ofInt (s_126 (g0 541) t one day))), some (.int (Int32.ofInt (s_127 (g0 541) t one day))), some (.int (Int32.ofInt d')), x24, none, none, none], [.int (Int32.ofInt (s_127 (g0 541) t one day)), .int (Int32.ofInt (s_127 (g0 541) t one day))], h104)) rfl ?_
  refine yy_fin.ic rfl (fun _ => ?_) (fun cz => absurd (y_ceq (congrArg Int32.ofInt (rfl : s_127 (g0 541) t one day = s_127 (g0 541) t one day))) cz)
  exact kk _ _ _ _ _ _ _ _ C (Y.le (by omega) (by omega))
end YD16
