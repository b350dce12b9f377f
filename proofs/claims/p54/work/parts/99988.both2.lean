/-! THE LAW ASKS OF TWO TOWNS (300): shared (printed by wip/p54/w21.py) -/
section YD21
variable {X : yy_X} {own : yOwn} {w t t2 L : Nat} {xs : Nat → Int32} {lst : List (yBell × List fl_T)} {g0 g : aa_G} {h h0 : zz_H} {day fr : Int} {φ : Option Value → zz_H → Prop}
theorem ym_s (F : yCf own w lst g0) (ht : (t : Int) < (g0 541 0).toInt) (ht2 : (t2 : Int) < (g0 541 0).toInt) (hd : 0 ≤ day ∧ day ≤ 35999) {A E q13 : Nat} {u l M0 M1 : Int} {x8 x9 x10 x11 x12 : Option Value} (hR : h0.1.1 + A + 100 < yy_B) (hu : 0 ≤ u ∧ u ≤ 86399) (hl : 1 ≤ l ∧ u + l ≤ 86399) (kk : ∀ h' d' x17 x18 x19, yCx own w lst g0 h' g → yx (yAk w) A E h0 h' → yy_fin X 300 (411, [some (.ref 1), some (.ref w), some (.ref 0), some (.int (Int32.ofInt fr)), some (.int (Int32.ofInt (t : Int))), some (.int (Int32.ofInt (t2 : Int))), some (.int (Int32.ofInt day)), some (.int (Int32.ofInt (4 * (t : Int) + (t2 : Int)))), x8, x9, x10, x11, x12, some (.ref q13), some (.int (Int32.ofInt M0)), some (.int (Int32.ofInt M1)), some (.int (Int32.ofInt d')), x17, x18, x19, none, none, none, none, none, none, none, none, none, none], [], h') φ) : ∀ (n j : Nat) (h : zz_H) (c0 c1 : Int) (x17 x18 x19 : Option Value) (a e : Nat), j + n = 3 → fd_i (sh_f (g0 541) t t2 day u (u + l)) j n (c0, c1) = (M0, M1) → yCx own w lst g0 h g → yx (yAk w) a e h0 h → yRw h w q13 [Int32.ofInt u, Int32.ofInt (u + l)] → a + 3 * n ≤ A → e + 6 * n ≤ E → yy_fin X 300 (289, [some (.ref 1), some (.ref w), some (.ref 0), some (.int (Int32.ofInt fr)), some (.int (Int32.ofInt (t : Int))), some (.int (Int32.ofInt (t2 : Int))), some (.int (Int32.ofInt day)), some (.int (Int32.ofInt (4 * (t : Int) + (t2 : Int)))), x8, x9, x10, x11, x12, some (.ref q13), some (.int (Int32.ofInt c0)), some (.int (Int32.ofInt c1)), some (.int (Int32.ofInt (day - 1 + (j : Int)))), x17, x18, x19, none, none, none, none, none, none, none, none, none, none], [], h) φ
  | 0, j, h, c0, c1, x17, x18, x19, a, e, hn, hM, C, Y, R13, hA, hE => by
    have n4 := F.2.2.2.1
    have hq := F.2.2.2.2.1
    have hY := Y.1
    have hg := C.2.1.2
    have l8 := F.2.2.1.2.1
    obtain ⟨rfl, rfl⟩ := Prod.mk.inj (show (c0, c1) = (M0, M1) from hM)
    refine yy_fin.steps (n := 4) (s' := (295, [some (.ref 1), some (.ref w), some (.ref 0), some (.int (Int32.ofInt fr)), some (.int (Int32.ofInt (t : Int))), some (.int (Int32.ofInt (t2 : Int))), some (.int (Int32.ofInt day)), some (.int (Int32.ofInt (4 * (t : Int) + (t2 : Int)))), x8, x9, x10, x11, x12, some (.ref q13), some (.int (Int32.ofInt c0)), some (.int (Int32.ofInt c1)), some (.int (Int32.ofInt (day - 1 + (j : Int)))), x17, x18, x19, none, none, none, none, none, none, none, none, none, none], [.int ((Int32.ofInt day) + (Int32.ofInt 1)), .int (Int32.ofInt (day - 1 + (j : Int)))], h)) rfl ?_
    rw [yi_add day 1]
    refine yy_fin.ic rfl (fun cq => ?_) (fun cq => absurd ((yi_c_gt (a := (day - 1 + (j : Int))) (b := day + 1) (by omega) (by omega)).mpr (by omega)) cq)
    have cq := (yi_c_gt (a := (day - 1 + (j : Int))) (b := day + 1) (by omega) (by omega)).mp cq
    exact kk _ _ _ _ _ C (Y.le (by omega) (by omega))
  | n + 1, j, h, c0, c1, x17, x18, x19, a, e, hn, hM, C, Y, R13, hA, hE => by
    have n4 := F.2.2.2.1
    have hq := F.2.2.2.2.1
    have hY := Y.1
    have hg := C.2.1.2
    have l8 := F.2.2.1.2.1
    have o1 := (F.2.2.2.2.2 t ht).1
    have o2 := (F.2.2.2.2.2 t2 ht2).1
    have hM2 : fd_i (sh_f (g0 541) t t2 day u (u + l)) (j + 1) n ((sh_f (g0 541) t t2 day u (u + l)) j (c0, c1)) = (M0, M1) := hM
    obtain ⟨d, ed⟩ : ∃ d, d = day - 1 + (j : Int) := ⟨_, rfl⟩
    rw [← ed]
    refine yy_fin.steps (n := 4) (s' := (295, [some (.ref 1), some (.ref w), some (.ref 0), some (.int (Int32.ofInt fr)), some (.int (Int32.ofInt (t : Int))), some (.int (Int32.ofInt (t2 : Int))), some (.int (Int32.ofInt day)), some (.int (Int32.ofInt (4 * (t : Int) + (t2 : Int)))), x8, x9, x10, x11, x12, some (.ref q13), some (.int (Int32.ofInt c0)), some (.int (Int32.ofInt c1)), some (.int (Int32.ofInt d)), x17, x18, x19, none, none, none, none, none, none, none, none, none, none], [.int ((Int32.ofInt day) + (Int32.ofInt 1)), .int (Int32.ofInt d)], h)) rfl ?_
    rw [yi_add day 1]
    refine yy_fin.ic rfl (fun cq => absurd ((yi_c_gt (a := d) (b := day + 1) (by omega) (by omega)).mp cq) (by omega)) (fun cq => ?_)
    have cq := mt (yi_c_gt (a := d) (b := day + 1) (by omega) (by omega)).mpr cq
    refine yy_fin.steps (n := 6) (s' := (309, [some (.ref 1), some (.ref w), some (.ref 0), some (.int (Int32.ofInt fr)), some (.int (Int32.ofInt (t : Int))), some (.int (Int32.ofInt (t2 : Int))), some (.int (Int32.ofInt day)), some (.int (Int32.ofInt (4 * (t : Int) + (t2 : Int)))), x8, x9, x10, x11, x12, some (.ref q13), some (.int (Int32.ofInt c0)), some (.int (Int32.ofInt c1)), some (.int (Int32.ofInt d)), x17, x18, x19, none, none, none, none, none, none, none, none, none, none], [.int (Int32.ofInt 0), .int (Int32.ofInt d), .int (Int32.ofInt (t2 : Int)), .ref w], h)) rfl ?_
    have leR13_101 := yP.le R13.2
    obtain ⟨fw102, oW102⟩ := C.ow
    refine yy_fin.cv (as := [.int (Int32.ofInt (t2 : Int)), .int (Int32.ofInt d), .int (Int32.ofInt 0)]) rfl rfl rfl oW102 (Nat.le_of_ble_eq_true rfl) (Nat.le_of_ble_eq_true rfl) (yc_half2 F C ht2 (day := d) (half := 0) (by omega) (Or.inl rfl) (by omega)) ?_
    rintro v h102 ⟨C, x102, q102, rfl, H102⟩
    replace R13 := R13.k x102
    have hx102 := x102.1
    replace Y := Y.tr x102 (fun _ _ e => e)
    replace hY := Y.1
    suffices K103 : yy_fin X 300 (314, [some (.ref 1), some (.ref w), some (.ref 0), some (.int (Int32.ofInt fr)), some (.int (Int32.ofInt (t : Int))), some (.int (Int32.ofInt (t2 : Int))), some (.int (Int32.ofInt day)), some (.int (Int32.ofInt (4 * (t : Int) + (t2 : Int)))), x8, x9, x10, x11, x12, some (.ref q13), some (.int (Int32.ofInt c0)), some (.int (Int32.ofInt c1)), some (.int (Int32.ofInt d)), some (zz_val q102), x18, x19, none, none, none, none, none, none, none, none, none, none], [], h102) φ by cases q102 <;> exact yy_fin.steps (n := 1) rfl K103
    suffices K104 : yy_fin X 300 (316, [some (.ref 1), some (.ref w), some (.ref 0), some (.int (Int32.ofInt fr)), some (.int (Int32.ofInt (t : Int))), some (.int (Int32.ofInt (t2 : Int))), some (.int (Int32.ofInt day)), some (.int (Int32.ofInt (4 * (t : Int) + (t2 : Int)))), x8, x9, x10, x11, x12, some (.ref q13), some (.int (Int32.ofInt c0)), some (.int (Int32.ofInt c1)), some (.int (Int32.ofInt d)), some (zz_val q102), x18, x19, none, none, none, none, none, none, none, none, none, none], [zz_val q102], h102) φ by cases q102 <;> exact yy_fin.steps (n := 1) rfl K104
    rcases H102 with ⟨rfl, eo105⟩ | ⟨q105, u105, l105, rfl, eo105, R105⟩
    · refine yy_fin.steps (n := 4) (s' := (289, [some (.ref 1), some (.ref w), some (.ref 0), some (.int (Int32.ofInt fr)), some (.int (Int32.ofInt (t : Int))), some (.int (Int32.ofInt (t2 : Int))), some (.int (Int32.ofInt day)), some (.int (Int32.ofInt (4 * (t : Int) + (t2 : Int)))), x8, x9, x10, x11, x12, some (.ref q13), some (.int (Int32.ofInt c0)), some (.int (Int32.ofInt c1)), some (.int ((Int32.ofInt d) + (Int32.ofInt 1))), some (.null), x18, x19, none, none, none, none, none, none, none, none, none, none], [], h102)) rfl ?_
      rw [yi_add d 1]
      rw [show d + 1 = day - 1 + ((j + 1 : Nat) : Int) by omega]
      have es : (sh_f (g0 541) t t2 day u (u + l)) j (c0, c1) = (c0, c1) := by unfold sh_f; rw [← ed, eo105]
      rw [es] at hM2
      exact ym_s F ht ht2 hd hR hu hl kk n (j + 1) _ _ _ _ _ _ _ _ (by omega) hM2 C Y R13 (by omega) (by omega)
    · have hb105 := hv_bnd2 F.2.2.2 ht2 eo105
      have lq105 : q105 ≤ h102.1.1 := yP.le R105.1.2
      replace R105 := R105.1
      refine yy_fin.steps (n := 7) (s' := (331, [some (.ref 1), some (.ref w), some (.ref 0), some (.int (Int32.ofInt fr)), some (.int (Int32.ofInt (t : Int))), some (.int (Int32.ofInt (t2 : Int))), some (.int (Int32.ofInt day)), some (.int (Int32.ofInt (4 * (t : Int) + (t2 : Int)))), x8, x9, x10, x11, x12, some (.ref q13), some (.int (Int32.ofInt c0)), some (.int (Int32.ofInt c1)), some (.int (Int32.ofInt d)), some (.ref q105), x18, x19, none, none, none, none, none, none, none, none, none, none], [.ref w, .int ((Int32.ofInt 86400) * ((Int32.ofInt d) - (Int32.ofInt day)))], h102)) rfl ?_
      rw [yi_sub d day]
      rw [yi_mul 86400 (d - day)]
      have hl17 := hv_bnd F.2.2.2 ht2 eo105
      have hl18 := hl17.2.2.2.1 (by decide)
      obtain ⟨oo106, fo106, of1106, of2106, of3106, of4106, of5106⟩ := C.os F
      have ot1106 := of5106 t ht
      have ot2106 := of5106 t2 ht2
      have lt1106 := (List.getElem?_eq_some_iff.mp ot1106).1
      have lt2106 := (List.getElem?_eq_some_iff.mp ot2106).1
      refine yy_fin.fr rfl of1106 of2106 ?_
      refine yy_fin.steps (n := 1) (s' := (336, [some (.ref 1), some (.ref w), some (.ref 0), some (.int (Int32.ofInt fr)), some (.int (Int32.ofInt (t : Int))), some (.int (Int32.ofInt (t2 : Int))), some (.int (Int32.ofInt day)), some (.int (Int32.ofInt (4 * (t : Int) + (t2 : Int)))), x8, x9, x10, x11, x12, some (.ref q13), some (.int (Int32.ofInt c0)), some (.int (Int32.ofInt c1)), some (.int (Int32.ofInt d)), some (.ref q105), x18, x19, none, none, none, none, none, none, none, none, none, none], [.int (Int32.ofInt (t2 : Int)), .ref oo106, .int (Int32.ofInt (86400 * (d - day)))], h102)) rfl ?_
      refine yy_fin.lp rfl of3106 (yi_inb (a := (t2 : Int)) (by omega) (by omega) (by omega)) ((yi_cl (a := (t2 : Int)) (by omega)).trans (Int.toNat_natCast t2)) ot2106 ?_
      refine yy_fin.steps (n := 2) (s' := (339, [some (.ref 1), some (.ref w), some (.ref 0), some (.int (Int32.ofInt fr)), some (.int (Int32.ofInt (t : Int))), some (.int (Int32.ofInt (t2 : Int))), some (.int (Int32.ofInt day)), some (.int (Int32.ofInt (4 * (t : Int) + (t2 : Int)))), x8, x9, x10, x11, x12, some (.ref q13), some (.int (Int32.ofInt c0)), some (.int (Int32.ofInt c1)), some (.int (Int32.ofInt d)), some (.ref q105), x18, x19, none, none, none, none, none, none, none, none, none, none], [.ref w, .int ((Int32.ofInt (86400 * (d - day))) - (Int32.ofInt ((g0 541 (50 * t2 + 3)).toInt)))], h102)) rfl ?_
      rw [yi_sub (86400 * (d - day)) ((g0 541 (50 * t2 + 3)).toInt)]
      obtain ⟨oo107, fo107, of1107, of2107, of3107, of4107, of5107⟩ := C.os F
      have ot1107 := of5107 t ht
      have ot2107 := of5107 t2 ht2
      have lt1107 := (List.getElem?_eq_some_iff.mp ot1107).1
      have lt2107 := (List.getElem?_eq_some_iff.mp ot2107).1
      refine yy_fin.fr rfl of1107 of2107 ?_
      refine yy_fin.steps (n := 1) (s' := (344, [some (.ref 1), some (.ref w), some (.ref 0), some (.int (Int32.ofInt fr)), some (.int (Int32.ofInt (t : Int))), some (.int (Int32.ofInt (t2 : Int))), some (.int (Int32.ofInt day)), some (.int (Int32.ofInt (4 * (t : Int) + (t2 : Int)))), x8, x9, x10, x11, x12, some (.ref q13), some (.int (Int32.ofInt c0)), some (.int (Int32.ofInt c1)), some (.int (Int32.ofInt d)), some (.ref q105), x18, x19, none, none, none, none, none, none, none, none, none, none], [.int (Int32.ofInt (t : Int)), .ref oo107, .int (Int32.ofInt ((86400 * (d - day)) - ((g0 541 (50 * t2 + 3)).toInt)))], h102)) rfl ?_
      refine yy_fin.lp rfl of3107 (yi_inb (a := (t : Int)) (by omega) (by omega) (by omega)) ((yi_cl (a := (t : Int)) (by omega)).trans (Int.toNat_natCast t)) ot1107 ?_
      refine yy_fin.steps (n := 1) (s' := (346, [some (.ref 1), some (.ref w), some (.ref 0), some (.int (Int32.ofInt fr)), some (.int (Int32.ofInt (t : Int))), some (.int (Int32.ofInt (t2 : Int))), some (.int (Int32.ofInt day)), some (.int (Int32.ofInt (4 * (t : Int) + (t2 : Int)))), x8, x9, x10, x11, x12, some (.ref q13), some (.int (Int32.ofInt c0)), some (.int (Int32.ofInt c1)), some (.int (Int32.ofInt d)), some (.ref q105), x18, x19, none, none, none, none, none, none, none, none, none, none], [.int ((Int32.ofInt ((86400 * (d - day)) - ((g0 541 (50 * t2 + 3)).toInt))) + (Int32.ofInt ((g0 541 (50 * t + 3)).toInt)))], h102)) rfl ?_
      rw [yi_add ((86400 * (d - day)) - ((g0 541 (50 * t2 + 3)).toInt)) ((g0 541 (50 * t + 3)).toInt)]
      have eby : (y_by (g0 541) t t2 day d) = 86400 * (d - day) - (g0 541 (50 * t2 + 3)).toInt + (g0 541 (50 * t + 3)).toInt := rfl
      rw [show ((86400 * (d - day)) - ((g0 541 (50 * t2 + 3)).toInt)) + ((g0 541 (50 * t + 3)).toInt) = (y_by (g0 541) t t2 day d) by omega]
      refine yy_fin.steps (n := 4) (s' := (352, [some (.ref 1), some (.ref w), some (.ref 0), some (.int (Int32.ofInt fr)), some (.int (Int32.ofInt (t : Int))), some (.int (Int32.ofInt (t2 : Int))), some (.int (Int32.ofInt day)), some (.int (Int32.ofInt (4 * (t : Int) + (t2 : Int)))), x8, x9, x10, x11, x12, some (.ref q13), some (.int (Int32.ofInt c0)), some (.int (Int32.ofInt c1)), some (.int (Int32.ofInt d)), some (.ref q105), some (.int (Int32.ofInt (y_by (g0 541) t t2 day d))), x19, none, none, none, none, none, none, none, none, none, none], [.int (Int32.ofInt 1), .ref q13, .int (Int32.ofInt 0)], h102)) rfl ?_
      refine yy_fin.lp (j := 1) rfl R13.2 rfl (by decide) rfl ?_
      refine yy_fin.steps (n := 2) (s' := (356, [some (.ref 1), some (.ref w), some (.ref 0), some (.int (Int32.ofInt fr)), some (.int (Int32.ofInt (t : Int))), some (.int (Int32.ofInt (t2 : Int))), some (.int (Int32.ofInt day)), some (.int (Int32.ofInt (4 * (t : Int) + (t2 : Int)))), x8, x9, x10, x11, x12, some (.ref q13), some (.int (Int32.ofInt c0)), some (.int (Int32.ofInt c1)), some (.int (Int32.ofInt d)), some (.ref q105), some (.int (Int32.ofInt (y_by (g0 541) t t2 day d))), x19, none, none, none, none, none, none, none, none, none, none], [.int (Int32.ofInt 1), .ref q105, .int (Int32.ofInt (u + l)), .int (Int32.ofInt 0)], h102)) rfl ?_
      refine yy_fin.lp (j := 1) rfl R105.2 rfl (by decide) rfl ?_
      refine yy_fin.steps (n := 5) (s' := (366, [some (.ref 1), some (.ref w), some (.ref 0), some (.int (Int32.ofInt fr)), some (.int (Int32.ofInt (t : Int))), some (.int (Int32.ofInt (t2 : Int))), some (.int (Int32.ofInt day)), some (.int (Int32.ofInt (4 * (t : Int) + (t2 : Int)))), x8, x9, x10, x11, x12, some (.ref q13), some (.int (Int32.ofInt c0)), some (.int (Int32.ofInt c1)), some (.int (Int32.ofInt d)), some (.ref q105), some (.int (Int32.ofInt (y_by (g0 541) t t2 day d))), x19, none, none, none, none, none, none, none, none, none, none], [.int (Int32.ofInt 0), .ref q13, .int (if ((Int32.ofInt (u105 + l105)) + (Int32.ofInt (y_by (g0 541) t t2 day d))) < (Int32.ofInt (u + l)) then ((Int32.ofInt (u105 + l105)) + (Int32.ofInt (y_by (g0 541) t t2 day d))) else (Int32.ofInt (u + l))), .int (Int32.ofInt 0)], h102)) rfl ?_
      rw [yi_add (u105 + l105) (y_by (g0 541) t t2 day d)]
      rw [yi_min (a := u + l) (b := (u105 + l105) + (y_by (g0 541) t t2 day d)) (by omega) (by omega)]
      refine yy_fin.lp (j := 0) rfl R13.2 rfl (by decide) rfl ?_
      refine yy_fin.steps (n := 2) (s' := (370, [some (.ref 1), some (.ref w), some (.ref 0), some (.int (Int32.ofInt fr)), some (.int (Int32.ofInt (t : Int))), some (.int (Int32.ofInt (t2 : Int))), some (.int (Int32.ofInt day)), some (.int (Int32.ofInt (4 * (t : Int) + (t2 : Int)))), x8, x9, x10, x11, x12, some (.ref q13), some (.int (Int32.ofInt c0)), some (.int (Int32.ofInt c1)), some (.int (Int32.ofInt d)), some (.ref q105), some (.int (Int32.ofInt (y_by (g0 541) t t2 day d))), x19, none, none, none, none, none, none, none, none, none, none], [.int (Int32.ofInt 0), .ref q105, .int (Int32.ofInt u), .int (Int32.ofInt (min (u + l) ((u105 + l105) + (y_by (g0 541) t t2 day d)))), .int (Int32.ofInt 0)], h102)) rfl ?_
      refine yy_fin.lp (j := 0) rfl R105.2 rfl (by decide) rfl ?_
      refine yy_fin.steps (n := 5) (s' := (381, [some (.ref 1), some (.ref w), some (.ref 0), some (.int (Int32.ofInt fr)), some (.int (Int32.ofInt (t : Int))), some (.int (Int32.ofInt (t2 : Int))), some (.int (Int32.ofInt day)), some (.int (Int32.ofInt (4 * (t : Int) + (t2 : Int)))), x8, x9, x10, x11, x12, some (.ref q13), some (.int (Int32.ofInt c0)), some (.int (Int32.ofInt c1)), some (.int (Int32.ofInt d)), some (.ref q105), some (.int (Int32.ofInt (y_by (g0 541) t t2 day d))), x19, none, none, none, none, none, none, none, none, none, none], [.int (if (Int32.ofInt 0) < ((Int32.ofInt (min (u + l) ((u105 + l105) + (y_by (g0 541) t t2 day d)))) - (if (Int32.ofInt u) < ((Int32.ofInt u105) + (Int32.ofInt (y_by (g0 541) t t2 day d))) then ((Int32.ofInt u105) + (Int32.ofInt (y_by (g0 541) t t2 day d))) else (Int32.ofInt u))) then ((Int32.ofInt (min (u + l) ((u105 + l105) + (y_by (g0 541) t t2 day d)))) - (if (Int32.ofInt u) < ((Int32.ofInt u105) + (Int32.ofInt (y_by (g0 541) t t2 day d))) then ((Int32.ofInt u105) + (Int32.ofInt (y_by (g0 541) t t2 day d))) else (Int32.ofInt u))) else (Int32.ofInt 0))], h102)) rfl ?_
      rw [yi_add u105 (y_by (g0 541) t t2 day d)]
      rw [yi_max (a := u) (b := u105 + (y_by (g0 541) t t2 day d)) (by omega) (by omega)]
      rw [yi_sub (min (u + l) ((u105 + l105) + (y_by (g0 541) t t2 day d))) (max u (u105 + (y_by (g0 541) t t2 day d)))]
      rw [yi_max (a := 0) (b := (min (u + l) ((u105 + l105) + (y_by (g0 541) t t2 day d))) - (max u (u105 + (y_by (g0 541) t t2 day d)))) (by omega) (by omega)]
      obtain ⟨nn, enn⟩ : ∃ z, z = max 0 ((min (u + l) ((u105 + l105) + (y_by (g0 541) t t2 day d))) - (max u (u105 + (y_by (g0 541) t t2 day d)))) := ⟨_, rfl⟩
      rw [← enn]
      obtain ⟨D, eD⟩ : ∃ z, z = sh_d (u105 + (y_by (g0 541) t t2 day d)) l105 u (u + l) := ⟨_, rfl⟩
      have eD2 : nn = max 0 D := by rw [eD, enn]; unfold sh_d; split <;> split <;> omega
      have ef : (sh_f (g0 541) t t2 day u (u + l)) j (c0, c1) = if 0 < D then (c0 + D, c1 + 1) else (c0, c1) := by
        rw [eD]
        unfold sh_f
        rw [← ed, eo105]
      have hnn : 0 ≤ nn ∧ nn ≤ 900000 := by omega
      refine yy_fin.steps (n := 7) (s' := (394, [some (.ref 1), some (.ref w), some (.ref 0), some (.int (Int32.ofInt fr)), some (.int (Int32.ofInt (t : Int))), some (.int (Int32.ofInt (t2 : Int))), some (.int (Int32.ofInt day)), some (.int (Int32.ofInt (4 * (t : Int) + (t2 : Int)))), x8, x9, x10, x11, x12, some (.ref q13), some (.int ((Int32.ofInt c0) + (Int32.ofInt nn))), some (.int (Int32.ofInt c1)), some (.int (Int32.ofInt d)), some (.ref q105), some (.int (Int32.ofInt (y_by (g0 541) t t2 day d))), some (.int (Int32.ofInt nn)), none, none, none, none, none, none, none, none, none, none], [.int (Int32.ofInt nn), .int (Int32.ofInt c1)], h102)) rfl ?_
      rw [yi_add c0 nn]
      refine yy_fin.if rfl (fun c108 => ?_) (fun c108 => ?_)
      · have c108 := (yi_z_le (a := nn) (by omega)).mp c108
        refine yy_fin.steps (n := 5) (s' := (289, [some (.ref 1), some (.ref w), some (.ref 0), some (.int (Int32.ofInt fr)), some (.int (Int32.ofInt (t : Int))), some (.int (Int32.ofInt (t2 : Int))), some (.int (Int32.ofInt day)), some (.int (Int32.ofInt (4 * (t : Int) + (t2 : Int)))), x8, x9, x10, x11, x12, some (.ref q13), some (.int (Int32.ofInt (c0 + nn))), some (.int ((Int32.ofInt c1) + (Int32.ofInt 0))), some (.int ((Int32.ofInt d) + (Int32.ofInt 1))), some (.ref q105), some (.int (Int32.ofInt (y_by (g0 541) t t2 day d))), some (.int (Int32.ofInt nn)), none, none, none, none, none, none, none, none, none, none], [], h102)) rfl ?_
        rw [yi_add c1 0]
        rw [yi_add d 1]
        rw [show d + 1 = day - 1 + ((j + 1 : Nat) : Int) by omega]
        rw [ef, if_neg (by omega)] at hM2
        rw [show c0 + nn = c0 by omega, show c1 + 0 = c1 by omega]
        exact ym_s F ht ht2 hd hR hu hl kk n (j + 1) _ _ _ _ _ _ _ _ (by omega) hM2 C Y R13 (by omega) (by omega)
      · have c108 := mt (yi_z_le (a := nn) (by omega)).mpr c108
        refine yy_fin.steps (n := 6) (s' := (289, [some (.ref 1), some (.ref w), some (.ref 0), some (.int (Int32.ofInt fr)), some (.int (Int32.ofInt (t : Int))), some (.int (Int32.ofInt (t2 : Int))), some (.int (Int32.ofInt day)), some (.int (Int32.ofInt (4 * (t : Int) + (t2 : Int)))), x8, x9, x10, x11, x12, some (.ref q13), some (.int (Int32.ofInt (c0 + nn))), some (.int ((Int32.ofInt c1) + (Int32.ofInt 1))), some (.int ((Int32.ofInt d) + (Int32.ofInt 1))), some (.ref q105), some (.int (Int32.ofInt (y_by (g0 541) t t2 day d))), some (.int (Int32.ofInt nn)), none, none, none, none, none, none, none, none, none, none], [], h102)) rfl ?_
        rw [yi_add c1 1]
        rw [yi_add d 1]
        rw [show d + 1 = day - 1 + ((j + 1 : Nat) : Int) by omega]
        rw [ef, if_pos (by omega)] at hM2
        rw [show c0 + nn = c0 + D by omega]
        exact ym_s F ht ht2 hd hR hu hl kk n (j + 1) _ _ _ _ _ _ _ _ (by omega) hM2 C Y R13 (by omega) (by omega)
theorem ym_b (F : yCf own w lst g0) (ht : (t : Int) < (g0 541 0).toInt) (ht2 : (t2 : Int) < (g0 541 0).toInt) (hd : 0 ≤ day ∧ day ≤ 35999) {a e : Nat} {x8 x9 x10 x11 x14 x15 x16 x17 x18 x19 : Option Value} {k12 : Option Nat} {i13 : Int} (C : yCx own w lst g0 h g) (Y : yx (yAk w) a e h0 h) (hR : h0.1.1 + a + 300 < yy_B) (kk : ∀ x12 : Option Value, ∀ h' g' x13 x14 i15 x16 x17 x18 x19, yCx own w lst g0 h' g' → yx (yAk w) (a + 12) (e + 24) h0 h' → yy_fin X 300 (441, [some (.ref 1), some (.ref w), some (.ref 0), some (.int (Int32.ofInt fr)), some (.int (Int32.ofInt (t : Int))), some (.int (Int32.ofInt (t2 : Int))), some (.int (Int32.ofInt day)), some (.int (Int32.ofInt (4 * (t : Int) + (t2 : Int)))), x8, x9, x10, x11, x12, x13, x14, some (.int (Int32.ofInt i15)), x16, x17, x18, x19, none, none, none, none, none, none, none, none, none, none], [], h') φ) : yy_fin X 300 (266, [some (.ref 1), some (.ref w), some (.ref 0), some (.int (Int32.ofInt fr)), some (.int (Int32.ofInt (t : Int))), some (.int (Int32.ofInt (t2 : Int))), some (.int (Int32.ofInt day)), some (.int (Int32.ofInt (4 * (t : Int) + (t2 : Int)))), x8, x9, x10, x11, some (zz_val k12), some (.int (Int32.ofInt i13)), x14, x15, x16, x17, x18, x19, none, none, none, none, none, none, none, none, none, none], [], h) φ := by
  have n4 := F.2.2.2.1
  have hq := F.2.2.2.2.1
  have hY := Y.1
  have hg := C.2.1.2
  have l8 := F.2.2.1.2.1
  refine yy_fin.steps (n := 4) (s' := (272, [some (.ref 1), some (.ref w), some (.ref 0), some (.int (Int32.ofInt fr)), some (.int (Int32.ofInt (t : Int))), some (.int (Int32.ofInt (t2 : Int))), some (.int (Int32.ofInt day)), some (.int (Int32.ofInt (4 * (t : Int) + (t2 : Int)))), x8, x9, x10, x11, some (zz_val k12), some (.int (Int32.ofInt i13)), x14, x15, x16, x17, x18, x19, none, none, none, none, none, none, none, none, none, none], [.int (Int32.ofInt 0), .int (Int32.ofInt day), .int (Int32.ofInt (t : Int)), .ref w], h)) rfl ?_
  obtain ⟨fw101, oW101⟩ := C.ow
  refine yy_fin.cv (as := [.int (Int32.ofInt (t : Int)), .int (Int32.ofInt day), .int (Int32.ofInt 0)]) rfl rfl rfl oW101 (Nat.le_of_ble_eq_true rfl) (Nat.le_of_ble_eq_true rfl) (yc_half2 F C ht (day := day) (half := 0) (by omega) (Or.inl rfl) (by omega)) ?_
  rintro v h101 ⟨C, x101, q101, rfl, H101⟩
  have hx101 := x101.1
  replace Y := Y.tr x101 (fun _ _ e => e)
  replace hY := Y.1
  suffices K102 : yy_fin X 300 (277, [some (.ref 1), some (.ref w), some (.ref 0), some (.int (Int32.ofInt fr)), some (.int (Int32.ofInt (t : Int))), some (.int (Int32.ofInt (t2 : Int))), some (.int (Int32.ofInt day)), some (.int (Int32.ofInt (4 * (t : Int) + (t2 : Int)))), x8, x9, x10, x11, some (zz_val k12), some (zz_val q101), x14, x15, x16, x17, x18, x19, none, none, none, none, none, none, none, none, none, none], [], h101) φ by cases q101 <;> cases k12 <;> exact yy_fin.steps (n := 1) rfl K102
  refine yy_fin.steps (n := 1) (s' := (278, [some (.ref 1), some (.ref w), some (.ref 0), some (.int (Int32.ofInt fr)), some (.int (Int32.ofInt (t : Int))), some (.int (Int32.ofInt (t2 : Int))), some (.int (Int32.ofInt day)), some (.int (Int32.ofInt (4 * (t : Int) + (t2 : Int)))), x8, x9, x10, x11, some (zz_val k12), some (zz_val q101), x14, x15, x16, x17, x18, x19, none, none, none, none, none, none, none, none, none, none], [.int (Int32.ofInt 0)], h101)) rfl ?_
  suffices K103 : yy_fin X 300 (280, [some (.ref 1), some (.ref w), some (.ref 0), some (.int (Int32.ofInt fr)), some (.int (Int32.ofInt (t : Int))), some (.int (Int32.ofInt (t2 : Int))), some (.int (Int32.ofInt day)), some (.int (Int32.ofInt (4 * (t : Int) + (t2 : Int)))), x8, x9, x10, x11, some (zz_val k12), some (zz_val q101), some (.int (Int32.ofInt 0)), x15, x16, x17, x18, x19, none, none, none, none, none, none, none, none, none, none], [], h101) φ by cases q101 <;> exact yy_fin.steps (n := 1) rfl K103
  refine yy_fin.steps (n := 6) (s' := (289, [some (.ref 1), some (.ref w), some (.ref 0), some (.int (Int32.ofInt fr)), some (.int (Int32.ofInt (t : Int))), some (.int (Int32.ofInt (t2 : Int))), some (.int (Int32.ofInt day)), some (.int (Int32.ofInt (4 * (t : Int) + (t2 : Int)))), x8, x9, x10, x11, some (zz_val k12), some (zz_val q101), some (.int (Int32.ofInt 0)), some (.int (Int32.ofInt 0)), some (.int ((Int32.ofInt day) - (Int32.ofInt 1))), x17, x18, x19, none, none, none, none, none, none, none, none, none, none], [], h101)) rfl ?_
  rw [yi_sub day 1]
  suffices J : ∀ (h' : zz_H) (d' : Int) (x12 x13 x17 x18 x19 : Option Value), yCx own w lst g0 h' g → yx (yAk w) (a + 12) (e + 24) h0 h' → yy_fin X 300 (411, [some (.ref 1), some (.ref w), some (.ref 0), some (.int (Int32.ofInt fr)), some (.int (Int32.ofInt (t : Int))), some (.int (Int32.ofInt (t2 : Int))), some (.int (Int32.ofInt day)), some (.int (Int32.ofInt (4 * (t : Int) + (t2 : Int)))), x8, x9, x10, x11, x12, x13, some (.int (Int32.ofInt (s_135 (g0 541) t t2 day 0))), some (.int (Int32.ofInt (s_135 (g0 541) t t2 day 1))), some (.int (Int32.ofInt d')), x17, x18, x19, none, none, none, none, none, none, none, none, none, none], [], h') φ by
    rcases H101 with ⟨rfl, eo⟩ | ⟨q13, u, l, rfl, eo, R13⟩
    · have e0 : s_135 (g0 541) t t2 day 0 = 0 := by unfold s_135; rw [eo]
      have e1 : s_135 (g0 541) t t2 day 1 = 0 := by unfold s_135; rw [eo]
      rw [e0, e1] at J
      refine yy_fin.steps (n := 4) (s' := (295, [some (.ref 1), some (.ref w), some (.ref 0), some (.int (Int32.ofInt fr)), some (.int (Int32.ofInt (t : Int))), some (.int (Int32.ofInt (t2 : Int))), some (.int (Int32.ofInt day)), some (.int (Int32.ofInt (4 * (t : Int) + (t2 : Int)))), x8, x9, x10, x11, some (zz_val k12), some (.null), some (.int (Int32.ofInt 0)), some (.int (Int32.ofInt 0)), some (.int (Int32.ofInt (day - 1))), x17, x18, x19, none, none, none, none, none, none, none, none, none, none], [.int ((Int32.ofInt day) + (Int32.ofInt 1)), .int (Int32.ofInt (day - 1))], h101)) rfl ?_
      rw [yi_add day 1]
      refine yy_fin.ic rfl (fun cq => absurd ((yi_c_gt (a := day - 1) (b := day + 1) (by omega) (by omega)).mp cq) (by omega)) (fun cq => ?_)
      have cq := mt (yi_c_gt (a := day - 1) (b := day + 1) (by omega) (by omega)).mpr cq
      refine yy_fin.steps (n := 2) (s' := (411, [some (.ref 1), some (.ref w), some (.ref 0), some (.int (Int32.ofInt fr)), some (.int (Int32.ofInt (t : Int))), some (.int (Int32.ofInt (t2 : Int))), some (.int (Int32.ofInt day)), some (.int (Int32.ofInt (4 * (t : Int) + (t2 : Int)))), x8, x9, x10, x11, some (zz_val k12), some (.null), some (.int (Int32.ofInt 0)), some (.int (Int32.ofInt 0)), some (.int (Int32.ofInt (day - 1))), x17, x18, x19, none, none, none, none, none, none, none, none, none, none], [], h101)) rfl ?_
      exact J _ _ _ _ _ _ _ C (Y.le (by omega) (by omega))
    · have hl := hv_bnd F.2.2.2 ht eo
      have hl4 := hl.2.2.2.1 (by decide)
      have e0 : s_135 (g0 541) t t2 day 0 = (fd_i (sh_f (g0 541) t t2 day u (u + l)) 0 3 (0, 0)).1 := by unfold s_135; rw [eo]; rfl
      have e1 : s_135 (g0 541) t t2 day 1 = (fd_i (sh_f (g0 541) t t2 day u (u + l)) 0 3 (0, 0)).2 := by unfold s_135; rw [eo]; rfl
      rw [show day - 1 = day - 1 + ((0 : Nat) : Int) by omega]
      exact ym_s F ht ht2 hd (A := a + 12) (E := e + 24) (M0 := s_135 (g0 541) t t2 day 0) (M1 := s_135 (g0 541) t t2 day 1) (y_rm hR (by decide)) (by omega) (by omega) (fun h' d' x17 x18 x19 C Y => J h' d' _ _ x17 x18 x19 C Y) 3 0 _ 0 0 _ _ _ _ _ (by omega) (by rw [e0, e1]) C Y R13.1 (by omega) (by omega)
  intro h7 d' x12 x13 x17 x18 x19 C Y
  replace hY := Y.1
  refine yy_fin.steps (n := 4) (s' := (417, [some (.ref 1), some (.ref w), some (.ref 0), some (.int (Int32.ofInt fr)), some (.int (Int32.ofInt (t : Int))), some (.int (Int32.ofInt (t2 : Int))), some (.int (Int32.ofInt day)), some (.int (Int32.ofInt (4 * (t : Int) + (t2 : Int)))), x8, x9, x10, x11, x12, x13, some (.int (Int32.ofInt (s_135 (g0 541) t t2 day 0))), some (.int (Int32.ofInt (s_135 (g0 541) t t2 day 1))), some (.int (Int32.ofInt d')), x17, x18, x19, none, none, none, none, none, none, none, none, none, none], [.int (Int32.ofInt 0), .int (Int32.ofInt day), .int (Int32.ofInt (4 * (t : Int) + (t2 : Int))), .ref 1], h7)) rfl ?_
  obtain ⟨g104, r104⟩ := qi_135 F C ht ht2 hd (i := 0) (Or.inl rfl)
  obtain ⟨fs104, oo104⟩ := C.o
  refine yy_fin.cv (as := [.int (Int32.ofInt (4 * (t : Int) + (t2 : Int))), .int (Int32.ofInt day), .int (Int32.ofInt 0)]) rfl rfl rfl oo104 (Nat.le_of_ble_eq_true rfl) (Nat.le_of_ble_eq_true rfl) r104 ?_
  rintro v h104 ⟨rfl, C, x104⟩
  have hx104 := x104.1
  replace Y := Y.tr x104 (fun _ _ e => e)
  replace hY := Y.1
  refine yy_fin.steps (n := 1) (s' := (422, [some (.ref 1), some (.ref w), some (.ref 0), some (.int (Int32.ofInt fr)), some (.int (Int32.ofInt (t : Int))), some (.int (Int32.ofInt (t2 : Int))), some (.int (Int32.ofInt day)), some (.int (Int32.ofInt (4 * (t : Int) + (t2 : Int)))), x8, x9, x10, x11, x12, x13, some (.int (Int32.ofInt (s_135 (g0 541) t t2 day 0))), some (.int (Int32.ofInt (s_135 (g0 541) t t2 day 1))), some (.int (Int32.ofInt d')), x17, x18, x19, none, none, none, none, none, none, none, none, none, none], [.int (Int32.ofInt (s_135 (g0 541) t t2 day 0)), .int (Int32.ofInt (s_135 (g0 541) t t2 day 0))], h104)) rfl ?_
  refine yy_fin.ic rfl (fun cz => absurd (congrArg Int32.ofInt (rfl : (s_135 (g0 541) t t2 day 0) = (s_135 (g0 541) t t2 day 0))) (y_cne cz)) (fun _ => ?_)
  refine yy_fin.steps (n := 4) (s' := (431, [some (.ref 1), some (.ref w), some (.ref 0), some (.int (Int32.ofInt fr)), some (.int (Int32.ofInt (t : Int))), some (.int (Int32.ofInt (t2 : Int))), some (.int (Int32.ofInt day)), some (.int (Int32.ofInt (4 * (t : Int) + (t2 : Int)))), x8, x9, x10, x11, x12, x13, some (.int (Int32.ofInt (s_135 (g0 541) t t2 day 0))), some (.int (Int32.ofInt (s_135 (g0 541) t t2 day 1))), some (.int (Int32.ofInt d')), x17, x18, x19, none, none, none, none, none, none, none, none, none, none], [.int (Int32.ofInt 1), .int (Int32.ofInt day), .int (Int32.ofInt (4 * (t : Int) + (t2 : Int))), .ref 1], h104)) rfl ?_
  obtain ⟨g105, r105⟩ := qi_135 F C ht ht2 hd (i := 1) (Or.inr rfl)
  obtain ⟨fs105, oo105⟩ := C.o
  refine yy_fin.cv (as := [.int (Int32.ofInt (4 * (t : Int) + (t2 : Int))), .int (Int32.ofInt day), .int (Int32.ofInt 1)]) rfl rfl rfl oo105 (Nat.le_of_ble_eq_true rfl) (Nat.le_of_ble_eq_true rfl) r105 ?_
  rintro v h105 ⟨rfl, C, x105⟩
  have hx105 := x105.1
  replace Y := Y.tr x105 (fun _ _ e => e)
  replace hY := Y.1
  refine yy_fin.steps (n := 1) (s' := (436, [some (.ref 1), some (.ref w), some (.ref 0), some (.int (Int32.ofInt fr)), some (.int (Int32.ofInt (t : Int))), some (.int (Int32.ofInt (t2 : Int))), some (.int (Int32.ofInt day)), some (.int (Int32.ofInt (4 * (t : Int) + (t2 : Int)))), x8, x9, x10, x11, x12, x13, some (.int (Int32.ofInt (s_135 (g0 541) t t2 day 0))), some (.int (Int32.ofInt (s_135 (g0 541) t t2 day 1))), some (.int (Int32.ofInt d')), x17, x18, x19, none, none, none, none, none, none, none, none, none, none], [.int (Int32.ofInt (s_135 (g0 541) t t2 day 1)), .int (Int32.ofInt (s_135 (g0 541) t t2 day 1))], h105)) rfl ?_
  refine yy_fin.ic rfl (fun _ => ?_) (fun cz => absurd (y_ceq (congrArg Int32.ofInt (rfl : (s_135 (g0 541) t t2 day 1) = (s_135 (g0 541) t t2 day 1)))) cz)
  exact kk _ _ _ _ _ _ _ _ _ _ C (Y.le (by omega) (by omega))
end YD21
