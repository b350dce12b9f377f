/-! THE LAW ASKS OF TWO TOWNS (300): meet (printed by wip/p54/w20.py) -/
section YD20
variable {X : yy_X} {own : yOwn} {w t t2 L : Nat} {xs : Nat → Int32} {lst : List (yBell × List fl_T)} {g0 g : aa_G} {h h0 : zz_H} {day fr one two : Int} {φ : Option Value → zz_H → Prop}
theorem ym_l (F : yCf own w lst g0) (ht : (t : Int) < (g0 541 0).toInt) (ht2 : (t2 : Int) < (g0 541 0).toInt) (hd : 0 ≤ day ∧ day ≤ 35999) (ho : 0 ≤ one ∧ one ≤ 23) (hw : 0 ≤ two ∧ two ≤ 23) {A E q12 : Nat} {u l M0 M1 : Int} (hR : h0.1.1 + A + 100 < yy_B) (hb12 : (0 ≤ u ∧ u ≤ 86399) ∧ 1 ≤ l ∧ l ≤ 172798 ∧ u + l ≤ 172798) (kk : ∀ h' d' x14 x15 x16 x17, yCx own w lst g0 h' g → yx (yAk w) A E h0 h' → yy_fin X 300 (228, [some (.ref 1), some (.ref w), some (.ref 0), some (.int (Int32.ofInt fr)), some (.int (Int32.ofInt (t : Int))), some (.int (Int32.ofInt (t2 : Int))), some (.int (Int32.ofInt day)), some (.int (Int32.ofInt (4 * (t : Int) + (t2 : Int)))), some (.int (Int32.ofInt one)), some (.int (Int32.ofInt two)), some (.int (Int32.ofInt M0)), some (.int (Int32.ofInt M1)), some (.ref q12), some (.int (Int32.ofInt d')), x14, x15, x16, x17, none, none, none, none, none, none, none, none, none, none, none, none], [], h') φ) : ∀ (n : Nat) (h : zz_H) (s0 s1 : Int) (x14 x15 x16 x17 : Option Value) (a e : Nat), n ≤ 11 → (-1000000 ≤ s0 ∧ s0 ≤ 1000000) → mt_d (fun j : Nat => me_V (g0 541) t t2 day (u + s_h (one % 12) l) (u + s_h (one % 12 + 1) l) (two / 12) (two % 12) (day - 5 + j)) n (s0, s1) = (M0, M1) → yCx own w lst g0 h g → yx (yAk w) a e h0 h → yRw h w q12 [Int32.ofInt u, Int32.ofInt (u + l)] → a + 3 * n ≤ A → e + 6 * n ≤ E → yy_fin X 300 (60, [some (.ref 1), some (.ref w), some (.ref 0), some (.int (Int32.ofInt fr)), some (.int (Int32.ofInt (t : Int))), some (.int (Int32.ofInt (t2 : Int))), some (.int (Int32.ofInt day)), some (.int (Int32.ofInt (4 * (t : Int) + (t2 : Int)))), some (.int (Int32.ofInt one)), some (.int (Int32.ofInt two)), some (.int (Int32.ofInt s0)), some (.int (Int32.ofInt s1)), some (.ref q12), some (.int (Int32.ofInt (day - 6 + (n : Int)))), x14, x15, x16, x17, none, none, none, none, none, none, none, none, none, none, none, none], [], h) φ
  | 0, h, s0, s1, x14, x15, x16, x17, a, e, hn, hs, hM, C, Y, R12, hA, hE => by
    have n4 := F.2.2.2.1
    have hq := F.2.2.2.2.1
    have hY := Y.1
    have hg := C.2.1.2
    have l8 := F.2.2.1.2.1
    obtain ⟨rfl, rfl⟩ := Prod.mk.inj (show (s0, s1) = (M0, M1) from hM)
    rw [show day - 6 + ((0 : Nat) : Int) = day - 6 by omega]
    refine yy_fin.steps (n := 4) (s' := (66, [some (.ref 1), some (.ref w), some (.ref 0), some (.int (Int32.ofInt fr)), some (.int (Int32.ofInt (t : Int))), some (.int (Int32.ofInt (t2 : Int))), some (.int (Int32.ofInt day)), some (.int (Int32.ofInt (4 * (t : Int) + (t2 : Int)))), some (.int (Int32.ofInt one)), some (.int (Int32.ofInt two)), some (.int (Int32.ofInt s0)), some (.int (Int32.ofInt s1)), some (.ref q12), some (.int (Int32.ofInt (day - 6))), x14, x15, x16, x17, none, none, none, none, none, none, none, none, none, none, none, none], [.int ((Int32.ofInt day) - (Int32.ofInt 5)), .int (Int32.ofInt (day - 6))], h)) rfl ?_
    rw [yi_sub day 5]
    refine yy_fin.ic rfl (fun cq => ?_) (fun cq => absurd ((yi_c_lt (a := (day - 6)) (b := day - 5) (by omega) (by omega)).mpr (by omega)) cq)
    have cq := (yi_c_lt (a := (day - 6)) (b := day - 5) (by omega) (by omega)).mp cq
    exact kk _ _ _ _ _ _ C (Y.le (by omega) (by omega))
  | n + 1, h, s0, s1, x14, x15, x16, x17, a, e, hn, hs, hM, C, Y, R12, hA, hE => by
    have n4 := F.2.2.2.1
    have hq := F.2.2.2.2.1
    have hY := Y.1
    have hg := C.2.1.2
    have l8 := F.2.2.1.2.1
    have o1 := (F.2.2.2.2.2 t ht).1
    have o2 := (F.2.2.2.2.2 t2 ht2).1
    have hM2 : mt_d (fun j : Nat => me_V (g0 541) t t2 day (u + s_h (one % 12) l) (u + s_h (one % 12 + 1) l) (two / 12) (two % 12) (day - 5 + j)) n (mt_s (fun j : Nat => me_V (g0 541) t t2 day (u + s_h (one % 12) l) (u + s_h (one % 12 + 1) l) (two / 12) (two % 12) (day - 5 + j)) n (s0, s1)) = (M0, M1) := hM
    rw [show day - 6 + ((n + 1 : Nat) : Int) = day - 5 + (n : Int) by omega]
    obtain ⟨d, ed⟩ : ∃ d, d = day - 5 + (n : Int) := ⟨_, rfl⟩
    rw [← ed]
    have sh0 := s_h_b (x := one % 12) (l := l) (by omega) (by omega)
    have sh1 := s_h_b (x := one % 12 + 1) (l := l) (by omega) (by omega)
    obtain ⟨oo, fo, of1, of2, of3, of4, of5⟩ := C.os F
    have ot1 := of5 t ht
    have ot2 := of5 t2 ht2
    have lt1 := (List.getElem?_eq_some_iff.mp ot1).1
    have lt2 := (List.getElem?_eq_some_iff.mp ot2).1
    refine yy_fin.steps (n := 4) (s' := (66, [some (.ref 1), some (.ref w), some (.ref 0), some (.int (Int32.ofInt fr)), some (.int (Int32.ofInt (t : Int))), some (.int (Int32.ofInt (t2 : Int))), some (.int (Int32.ofInt day)), some (.int (Int32.ofInt (4 * (t : Int) + (t2 : Int)))), some (.int (Int32.ofInt one)), some (.int (Int32.ofInt two)), some (.int (Int32.ofInt s0)), some (.int (Int32.ofInt s1)), some (.ref q12), some (.int (Int32.ofInt d)), x14, x15, x16, x17, none, none, none, none, none, none, none, none, none, none, none, none], [.int ((Int32.ofInt day) - (Int32.ofInt 5)), .int (Int32.ofInt d)], h)) rfl ?_
    rw [yi_sub day 5]
    refine yy_fin.ic rfl (fun cq => absurd ((yi_c_lt (a := d) (b := day - 5) (by omega) (by omega)).mp cq) (by omega)) (fun cq => ?_)
    have cq := mt (yi_c_lt (a := d) (b := day - 5) (by omega) (by omega)).mpr cq
    refine yy_fin.steps (n := 7) (s' := (83, [some (.ref 1), some (.ref w), some (.ref 0), some (.int (Int32.ofInt fr)), some (.int (Int32.ofInt (t : Int))), some (.int (Int32.ofInt (t2 : Int))), some (.int (Int32.ofInt day)), some (.int (Int32.ofInt (4 * (t : Int) + (t2 : Int)))), some (.int (Int32.ofInt one)), some (.int (Int32.ofInt two)), some (.int (Int32.ofInt s0)), some (.int (Int32.ofInt s1)), some (.ref q12), some (.int (Int32.ofInt d)), x14, x15, x16, x17, none, none, none, none, none, none, none, none, none, none, none, none], [.int (Int32.ofInt 12), .int (Int32.ofInt two), .int (Int32.ofInt d), .int (Int32.ofInt (t2 : Int)), .ref w], h)) rfl ?_
    refine yy_fin.dv rfl (by decide) ?_
    rw [yi_div (a := two) (b := 12) (by omega) (by omega)]
    have leR12_101 := yP.le R12.2
    obtain ⟨fw102, oW102⟩ := C.ow
    refine yy_fin.cv (as := [.int (Int32.ofInt (t2 : Int)), .int (Int32.ofInt d), .int (Int32.ofInt (two / 12))]) rfl rfl rfl oW102 (Nat.le_of_ble_eq_true rfl) (Nat.le_of_ble_eq_true rfl) (yc_half2 F C ht2 (day := d) (half := two / 12) (by omega) (by omega) (by omega)) ?_
    rintro v h102 ⟨C, x102, q102, rfl, H102⟩
    replace R12 := R12.k x102
    have hx102 := x102.1
    replace Y := Y.tr x102 (fun _ _ e => e)
    replace hY := Y.1
    suffices K103 : yy_fin X 300 (89, [some (.ref 1), some (.ref w), some (.ref 0), some (.int (Int32.ofInt fr)), some (.int (Int32.ofInt (t : Int))), some (.int (Int32.ofInt (t2 : Int))), some (.int (Int32.ofInt day)), some (.int (Int32.ofInt (4 * (t : Int) + (t2 : Int)))), some (.int (Int32.ofInt one)), some (.int (Int32.ofInt two)), some (.int (Int32.ofInt s0)), some (.int (Int32.ofInt s1)), some (.ref q12), some (.int (Int32.ofInt d)), some (zz_val q102), x15, x16, x17, none, none, none, none, none, none, none, none, none, none, none, none], [], h102) φ by cases q102 <;> exact yy_fin.steps (n := 1) rfl K103
    suffices K104 : yy_fin X 300 (91, [some (.ref 1), some (.ref w), some (.ref 0), some (.int (Int32.ofInt fr)), some (.int (Int32.ofInt (t : Int))), some (.int (Int32.ofInt (t2 : Int))), some (.int (Int32.ofInt day)), some (.int (Int32.ofInt (4 * (t : Int) + (t2 : Int)))), some (.int (Int32.ofInt one)), some (.int (Int32.ofInt two)), some (.int (Int32.ofInt s0)), some (.int (Int32.ofInt s1)), some (.ref q12), some (.int (Int32.ofInt d)), some (zz_val q102), x15, x16, x17, none, none, none, none, none, none, none, none, none, none, none, none], [zz_val q102], h102) φ by cases q102 <;> exact yy_fin.steps (n := 1) rfl K104
    rcases H102 with ⟨rfl, eo105⟩ | ⟨q105, u105, l105, rfl, eo105, R105⟩
    · refine yy_fin.steps (n := 4) (s' := (60, [some (.ref 1), some (.ref w), some (.ref 0), some (.int (Int32.ofInt fr)), some (.int (Int32.ofInt (t : Int))), some (.int (Int32.ofInt (t2 : Int))), some (.int (Int32.ofInt day)), some (.int (Int32.ofInt (4 * (t : Int) + (t2 : Int)))), some (.int (Int32.ofInt one)), some (.int (Int32.ofInt two)), some (.int (Int32.ofInt s0)), some (.int (Int32.ofInt s1)), some (.ref q12), some (.int ((Int32.ofInt d) + (Int32.ofInt (-1)))), some (.null), x15, x16, x17, none, none, none, none, none, none, none, none, none, none, none, none], [], h102)) rfl ?_
      rw [yi_add d (-1)]
      rw [show d + (-1) = day - 6 + (n : Int) by omega]
      have es : mt_s (fun j : Nat => me_V (g0 541) t t2 day (u + s_h (one % 12) l) (u + s_h (one % 12 + 1) l) (two / 12) (two % 12) (day - 5 + j)) n (s0, s1) = (s0, s1) := by
        have ev : me_V (g0 541) t t2 day (u + s_h (one % 12) l) (u + s_h (one % 12 + 1) l) (two / 12) (two % 12) (day - 5 + (n : Int)) = none := by
          rw [← ed]
          unfold me_V
          rw [eo105]
        show (match me_V (g0 541) t t2 day (u + s_h (one % 12) l) (u + s_h (one % 12 + 1) l) (two / 12) (two % 12) (day - 5 + (n : Int)) with | none => (s0, s1) | some p => if (s0, s1).1 ≠ -1000000 ∧ (s0, s1).1 < p.1 then (s0, s1) else p) = _
        rw [ev]
      rw [es] at hM2
      exact ym_l F ht ht2 hd ho hw hR hb12 kk n _ _ _ _ _ _ _ _ _ (by omega) (by omega) hM2 C Y R12 (by omega) (by omega)
    · have hb105 := hv_bnd2 F.2.2.2 ht2 eo105
      have lq105 : q105 ≤ h102.1.1 := yP.le R105.1.2
      replace R105 := R105.1
      refine yy_fin.steps (n := 7) (s' := (106, [some (.ref 1), some (.ref w), some (.ref 0), some (.int (Int32.ofInt fr)), some (.int (Int32.ofInt (t : Int))), some (.int (Int32.ofInt (t2 : Int))), some (.int (Int32.ofInt day)), some (.int (Int32.ofInt (4 * (t : Int) + (t2 : Int)))), some (.int (Int32.ofInt one)), some (.int (Int32.ofInt two)), some (.int (Int32.ofInt s0)), some (.int (Int32.ofInt s1)), some (.ref q12), some (.int (Int32.ofInt d)), some (.ref q105), x15, x16, x17, none, none, none, none, none, none, none, none, none, none, none, none], [.ref w, .int ((Int32.ofInt 86400) * ((Int32.ofInt d) - (Int32.ofInt day)))], h102)) rfl ?_
      rw [yi_sub d day]
      rw [yi_mul 86400 (d - day)]
      have shA := s_h_b (x := two % 12) (l := l105) (by omega) (by omega)
      have shB := s_h_b (x := two % 12 + 1) (l := l105) (by omega) (by omega)
      obtain ⟨oo106, fo106, of1106, of2106, of3106, of4106, of5106⟩ := C.os F
      have ot1106 := of5106 t ht
      have ot2106 := of5106 t2 ht2
      have lt1106 := (List.getElem?_eq_some_iff.mp ot1106).1
      have lt2106 := (List.getElem?_eq_some_iff.mp ot2106).1
      refine yy_fin.fr rfl of1106 of2106 ?_
      refine yy_fin.steps (n := 1) (s' := (111, [some (.ref 1), some (.ref w), some (.ref 0), some (.int (Int32.ofInt fr)), some (.int (Int32.ofInt (t : Int))), some (.int (Int32.ofInt (t2 : Int))), some (.int (Int32.ofInt day)), some (.int (Int32.ofInt (4 * (t : Int) + (t2 : Int)))), some (.int (Int32.ofInt one)), some (.int (Int32.ofInt two)), some (.int (Int32.ofInt s0)), some (.int (Int32.ofInt s1)), some (.ref q12), some (.int (Int32.ofInt d)), some (.ref q105), x15, x16, x17, none, none, none, none, none, none, none, none, none, none, none, none], [.int (Int32.ofInt (t2 : Int)), .ref oo106, .int (Int32.ofInt (86400 * (d - day)))], h102)) rfl ?_
      refine yy_fin.lp rfl of3106 (yi_inb (a := (t2 : Int)) (by omega) (by omega) (by omega)) ((yi_cl (a := (t2 : Int)) (by omega)).trans (Int.toNat_natCast t2)) ot2106 ?_
      refine yy_fin.steps (n := 2) (s' := (114, [some (.ref 1), some (.ref w), some (.ref 0), some (.int (Int32.ofInt fr)), some (.int (Int32.ofInt (t : Int))), some (.int (Int32.ofInt (t2 : Int))), some (.int (Int32.ofInt day)), some (.int (Int32.ofInt (4 * (t : Int) + (t2 : Int)))), some (.int (Int32.ofInt one)), some (.int (Int32.ofInt two)), some (.int (Int32.ofInt s0)), some (.int (Int32.ofInt s1)), some (.ref q12), some (.int (Int32.ofInt d)), some (.ref q105), x15, x16, x17, none, none, none, none, none, none, none, none, none, none, none, none], [.ref w, .int ((Int32.ofInt (86400 * (d - day))) - (Int32.ofInt ((g0 541 (50 * t2 + 3)).toInt)))], h102)) rfl ?_
      rw [yi_sub (86400 * (d - day)) ((g0 541 (50 * t2 + 3)).toInt)]
      obtain ⟨oo107, fo107, of1107, of2107, of3107, of4107, of5107⟩ := C.os F
      have ot1107 := of5107 t ht
      have ot2107 := of5107 t2 ht2
      have lt1107 := (List.getElem?_eq_some_iff.mp ot1107).1
      have lt2107 := (List.getElem?_eq_some_iff.mp ot2107).1
      refine yy_fin.fr rfl of1107 of2107 ?_
      refine yy_fin.steps (n := 1) (s' := (119, [some (.ref 1), some (.ref w), some (.ref 0), some (.int (Int32.ofInt fr)), some (.int (Int32.ofInt (t : Int))), some (.int (Int32.ofInt (t2 : Int))), some (.int (Int32.ofInt day)), some (.int (Int32.ofInt (4 * (t : Int) + (t2 : Int)))), some (.int (Int32.ofInt one)), some (.int (Int32.ofInt two)), some (.int (Int32.ofInt s0)), some (.int (Int32.ofInt s1)), some (.ref q12), some (.int (Int32.ofInt d)), some (.ref q105), x15, x16, x17, none, none, none, none, none, none, none, none, none, none, none, none], [.int (Int32.ofInt (t : Int)), .ref oo107, .int (Int32.ofInt ((86400 * (d - day)) - ((g0 541 (50 * t2 + 3)).toInt)))], h102)) rfl ?_
      refine yy_fin.lp rfl of3107 (yi_inb (a := (t : Int)) (by omega) (by omega) (by omega)) ((yi_cl (a := (t : Int)) (by omega)).trans (Int.toNat_natCast t)) ot1107 ?_
      refine yy_fin.steps (n := 1) (s' := (121, [some (.ref 1), some (.ref w), some (.ref 0), some (.int (Int32.ofInt fr)), some (.int (Int32.ofInt (t : Int))), some (.int (Int32.ofInt (t2 : Int))), some (.int (Int32.ofInt day)), some (.int (Int32.ofInt (4 * (t : Int) + (t2 : Int)))), some (.int (Int32.ofInt one)), some (.int (Int32.ofInt two)), some (.int (Int32.ofInt s0)), some (.int (Int32.ofInt s1)), some (.ref q12), some (.int (Int32.ofInt d)), some (.ref q105), x15, x16, x17, none, none, none, none, none, none, none, none, none, none, none, none], [.int ((Int32.ofInt ((86400 * (d - day)) - ((g0 541 (50 * t2 + 3)).toInt))) + (Int32.ofInt ((g0 541 (50 * t + 3)).toInt)))], h102)) rfl ?_
      rw [yi_add ((86400 * (d - day)) - ((g0 541 (50 * t2 + 3)).toInt)) ((g0 541 (50 * t + 3)).toInt)]
      have eby : (y_by (g0 541) t t2 day d) = 86400 * (d - day) - (g0 541 (50 * t2 + 3)).toInt + (g0 541 (50 * t + 3)).toInt := rfl
      rw [show ((86400 * (d - day)) - ((g0 541 (50 * t2 + 3)).toInt)) + ((g0 541 (50 * t + 3)).toInt) = (y_by (g0 541) t t2 day d) by omega]
      refine yy_fin.steps (n := 5) (s' := (130, [some (.ref 1), some (.ref w), some (.ref 0), some (.int (Int32.ofInt fr)), some (.int (Int32.ofInt (t : Int))), some (.int (Int32.ofInt (t2 : Int))), some (.int (Int32.ofInt day)), some (.int (Int32.ofInt (4 * (t : Int) + (t2 : Int)))), some (.int (Int32.ofInt one)), some (.int (Int32.ofInt two)), some (.int (Int32.ofInt s0)), some (.int (Int32.ofInt s1)), some (.ref q12), some (.int (Int32.ofInt d)), some (.ref q105), some (.int (Int32.ofInt (y_by (g0 541) t t2 day d))), x16, x17, none, none, none, none, none, none, none, none, none, none, none, none], [.int (Int32.ofInt 12), .int (Int32.ofInt one), .ref q12, .ref w], h102)) rfl ?_
      refine yy_fin.rm rfl (by decide) ?_
      rw [yi_rem (a := one) (b := 12) (by omega) (by omega)]
      obtain ⟨fw108, oW108⟩ := C.ow
      refine yy_fin.cv (as := [.ref q12, .int (Int32.ofInt (one % 12))]) rfl rfl rfl oW108 (Nat.le_of_ble_eq_true rfl) (Nat.le_of_ble_eq_true rfl) (yc_hour2 F C R12 hb12 (x := one % 12) (by omega)) ?_
      rintro v h9 ⟨rfl, e9⟩
      obtain rfl := e9.symm
      refine yy_fin.steps (n := 4) (s' := (141, [some (.ref 1), some (.ref w), some (.ref 0), some (.int (Int32.ofInt fr)), some (.int (Int32.ofInt (t : Int))), some (.int (Int32.ofInt (t2 : Int))), some (.int (Int32.ofInt day)), some (.int (Int32.ofInt (4 * (t : Int) + (t2 : Int)))), some (.int (Int32.ofInt one)), some (.int (Int32.ofInt two)), some (.int (Int32.ofInt s0)), some (.int (Int32.ofInt s1)), some (.ref q12), some (.int (Int32.ofInt d)), some (.ref q105), some (.int (Int32.ofInt (y_by (g0 541) t t2 day d))), x16, x17, none, none, none, none, none, none, none, none, none, none, none, none], [.int (Int32.ofInt 12), .int (Int32.ofInt two), .ref q105, .ref w, .int (Int32.ofInt (u + s_h (one % 12) l))], h102)) rfl ?_
      refine yy_fin.rm rfl (by decide) ?_
      rw [yi_rem (a := two) (b := 12) (by omega) (by omega)]
      obtain ⟨fw109, oW109⟩ := C.ow
      refine yy_fin.cv (as := [.ref q105, .int (Int32.ofInt (two % 12))]) rfl rfl rfl oW109 (Nat.le_of_ble_eq_true rfl) (Nat.le_of_ble_eq_true rfl) (yc_hour2 F C R105 hb105 (x := two % 12) (by omega)) ?_
      rintro v h9 ⟨rfl, e9⟩
      obtain rfl := e9.symm
      refine yy_fin.steps (n := 8) (s' := (160, [some (.ref 1), some (.ref w), some (.ref 0), some (.int (Int32.ofInt fr)), some (.int (Int32.ofInt (t : Int))), some (.int (Int32.ofInt (t2 : Int))), some (.int (Int32.ofInt day)), some (.int (Int32.ofInt (4 * (t : Int) + (t2 : Int)))), some (.int (Int32.ofInt one)), some (.int (Int32.ofInt two)), some (.int (Int32.ofInt s0)), some (.int (Int32.ofInt s1)), some (.ref q12), some (.int (Int32.ofInt d)), some (.ref q105), some (.int (Int32.ofInt (y_by (g0 541) t t2 day d))), some (.int (if (Int32.ofInt (u + s_h (one % 12) l)) < ((Int32.ofInt (u105 + s_h (two % 12) l105)) + (Int32.ofInt (y_by (g0 541) t t2 day d))) then ((Int32.ofInt (u105 + s_h (two % 12) l105)) + (Int32.ofInt (y_by (g0 541) t t2 day d))) else (Int32.ofInt (u + s_h (one % 12) l)))), x17, none, none, none, none, none, none, none, none, none, none, none, none], [.int (Int32.ofInt 12), .int (Int32.ofInt one), .ref q12, .ref w], h102)) rfl ?_
      rw [yi_add (u105 + s_h (two % 12) l105) (y_by (g0 541) t t2 day d)]
      rw [yi_max (a := u + s_h (one % 12) l) (b := (u105 + s_h (two % 12) l105) + (y_by (g0 541) t t2 day d)) (by omega) (by omega)]
      refine yy_fin.rm rfl (by decide) ?_
      rw [yi_rem (a := one) (b := 12) (by omega) (by omega)]
      refine yy_fin.steps (n := 2) (s' := (163, [some (.ref 1), some (.ref w), some (.ref 0), some (.int (Int32.ofInt fr)), some (.int (Int32.ofInt (t : Int))), some (.int (Int32.ofInt (t2 : Int))), some (.int (Int32.ofInt day)), some (.int (Int32.ofInt (4 * (t : Int) + (t2 : Int)))), some (.int (Int32.ofInt one)), some (.int (Int32.ofInt two)), some (.int (Int32.ofInt s0)), some (.int (Int32.ofInt s1)), some (.ref q12), some (.int (Int32.ofInt d)), some (.ref q105), some (.int (Int32.ofInt (y_by (g0 541) t t2 day d))), some (.int (Int32.ofInt (max (u + s_h (one % 12) l) ((u105 + s_h (two % 12) l105) + (y_by (g0 541) t t2 day d))))), x17, none, none, none, none, none, none, none, none, none, none, none, none], [.int ((Int32.ofInt (one % 12)) + (Int32.ofInt 1)), .ref q12, .ref w], h102)) rfl ?_
      rw [yi_add (one % 12) 1]
      obtain ⟨fw110, oW110⟩ := C.ow
      refine yy_fin.cv (as := [.ref q12, .int (Int32.ofInt ((one % 12) + 1))]) rfl rfl rfl oW110 (Nat.le_of_ble_eq_true rfl) (Nat.le_of_ble_eq_true rfl) (yc_hour2 F C R12 hb12 (x := one % 12 + 1) (by omega)) ?_
      rintro v h9 ⟨rfl, e9⟩
      obtain rfl := e9.symm
      refine yy_fin.steps (n := 4) (s' := (173, [some (.ref 1), some (.ref w), some (.ref 0), some (.int (Int32.ofInt fr)), some (.int (Int32.ofInt (t : Int))), some (.int (Int32.ofInt (t2 : Int))), some (.int (Int32.ofInt day)), some (.int (Int32.ofInt (4 * (t : Int) + (t2 : Int)))), some (.int (Int32.ofInt one)), some (.int (Int32.ofInt two)), some (.int (Int32.ofInt s0)), some (.int (Int32.ofInt s1)), some (.ref q12), some (.int (Int32.ofInt d)), some (.ref q105), some (.int (Int32.ofInt (y_by (g0 541) t t2 day d))), some (.int (Int32.ofInt (max (u + s_h (one % 12) l) ((u105 + s_h (two % 12) l105) + (y_by (g0 541) t t2 day d))))), x17, none, none, none, none, none, none, none, none, none, none, none, none], [.int (Int32.ofInt 12), .int (Int32.ofInt two), .ref q105, .ref w, .int (Int32.ofInt (u + s_h (one % 12 + 1) l))], h102)) rfl ?_
      refine yy_fin.rm rfl (by decide) ?_
      rw [yi_rem (a := two) (b := 12) (by omega) (by omega)]
      refine yy_fin.steps (n := 2) (s' := (176, [some (.ref 1), some (.ref w), some (.ref 0), some (.int (Int32.ofInt fr)), some (.int (Int32.ofInt (t : Int))), some (.int (Int32.ofInt (t2 : Int))), some (.int (Int32.ofInt day)), some (.int (Int32.ofInt (4 * (t : Int) + (t2 : Int)))), some (.int (Int32.ofInt one)), some (.int (Int32.ofInt two)), some (.int (Int32.ofInt s0)), some (.int (Int32.ofInt s1)), some (.ref q12), some (.int (Int32.ofInt d)), some (.ref q105), some (.int (Int32.ofInt (y_by (g0 541) t t2 day d))), some (.int (Int32.ofInt (max (u + s_h (one % 12) l) ((u105 + s_h (two % 12) l105) + (y_by (g0 541) t t2 day d))))), x17, none, none, none, none, none, none, none, none, none, none, none, none], [.int ((Int32.ofInt (two % 12)) + (Int32.ofInt 1)), .ref q105, .ref w, .int (Int32.ofInt (u + s_h (one % 12 + 1) l))], h102)) rfl ?_
      rw [yi_add (two % 12) 1]
      obtain ⟨fw111, oW111⟩ := C.ow
      refine yy_fin.cv (as := [.ref q105, .int (Int32.ofInt ((two % 12) + 1))]) rfl rfl rfl oW111 (Nat.le_of_ble_eq_true rfl) (Nat.le_of_ble_eq_true rfl) (yc_hour2 F C R105 hb105 (x := two % 12 + 1) (by omega)) ?_
      rintro v h9 ⟨rfl, e9⟩
      obtain rfl := e9.symm
      refine yy_fin.steps (n := 6) (s' := (191, [some (.ref 1), some (.ref w), some (.ref 0), some (.int (Int32.ofInt fr)), some (.int (Int32.ofInt (t : Int))), some (.int (Int32.ofInt (t2 : Int))), some (.int (Int32.ofInt day)), some (.int (Int32.ofInt (4 * (t : Int) + (t2 : Int)))), some (.int (Int32.ofInt one)), some (.int (Int32.ofInt two)), some (.int (Int32.ofInt s0)), some (.int (Int32.ofInt s1)), some (.ref q12), some (.int (Int32.ofInt d)), some (.ref q105), some (.int (Int32.ofInt (y_by (g0 541) t t2 day d))), some (.int (Int32.ofInt (max (u + s_h (one % 12) l) ((u105 + s_h (two % 12) l105) + (y_by (g0 541) t t2 day d))))), some (.int (if ((Int32.ofInt (u105 + s_h (two % 12 + 1) l105)) + (Int32.ofInt (y_by (g0 541) t t2 day d))) < (Int32.ofInt (u + s_h (one % 12 + 1) l)) then ((Int32.ofInt (u105 + s_h (two % 12 + 1) l105)) + (Int32.ofInt (y_by (g0 541) t t2 day d))) else (Int32.ofInt (u + s_h (one % 12 + 1) l)))), none, none, none, none, none, none, none, none, none, none, none, none], [.int (if ((Int32.ofInt (u105 + s_h (two % 12 + 1) l105)) + (Int32.ofInt (y_by (g0 541) t t2 day d))) < (Int32.ofInt (u + s_h (one % 12 + 1) l)) then ((Int32.ofInt (u105 + s_h (two % 12 + 1) l105)) + (Int32.ofInt (y_by (g0 541) t t2 day d))) else (Int32.ofInt (u + s_h (one % 12 + 1) l))), .int (Int32.ofInt (max (u + s_h (one % 12) l) ((u105 + s_h (two % 12) l105) + (y_by (g0 541) t t2 day d))))], h102)) rfl ?_
      rw [yi_add (u105 + s_h (two % 12 + 1) l105) (y_by (g0 541) t t2 day d)]
      rw [yi_min (a := u + s_h (one % 12 + 1) l) (b := (u105 + s_h (two % 12 + 1) l105) + (y_by (g0 541) t t2 day d)) (by omega) (by omega)]
      obtain ⟨lo, elo⟩ : ∃ z, z = max (u + s_h (one % 12) l) ((u105 + s_h (two % 12) l105) + (y_by (g0 541) t t2 day d)) := ⟨_, rfl⟩
      obtain ⟨hi, ehi⟩ : ∃ z, z = min (u + s_h (one % 12 + 1) l) ((u105 + s_h (two % 12 + 1) l105) + (y_by (g0 541) t t2 day d)) := ⟨_, rfl⟩
      rw [← elo, ← ehi]
      have el : (if (u105 + s_h (two % 12) l105 + (y_by (g0 541) t t2 day d)) ≤ (u + s_h (one % 12) l) then (u + s_h (one % 12) l) else (u105 + s_h (two % 12) l105 + (y_by (g0 541) t t2 day d))) = lo := by rw [elo]; split <;> omega
      have eh : (if (u + s_h (one % 12 + 1) l) ≤ (u105 + s_h (two % 12 + 1) l105 + (y_by (g0 541) t t2 day d)) then (u + s_h (one % 12 + 1) l) else (u105 + s_h (two % 12 + 1) l105 + (y_by (g0 541) t t2 day d))) = hi := by rw [ehi]; split <;> omega
      have ev : me_V (g0 541) t t2 day (u + s_h (one % 12) l) (u + s_h (one % 12 + 1) l) (two / 12) (two % 12) (day - 5 + (n : Int)) = if hi ≤ lo then none else some (lo, hi - lo) := by
        rw [← ed]
        unfold me_V
        rw [eo105]
        dsimp only
        rw [el, eh]
      have hlo : 0 ≤ lo ∧ lo ≤ 900000 := by omega
      have hhi : -900000 ≤ hi ∧ hi ≤ 300000 := by omega
      refine yy_fin.ic rfl (fun c112 => ?_) (fun c112 => ?_)
      · have c112 := (yi_c_ge (a := lo) (b := hi) (by omega) (by omega)).mp c112
        refine yy_fin.steps (n := 2) (s' := (60, [some (.ref 1), some (.ref w), some (.ref 0), some (.int (Int32.ofInt fr)), some (.int (Int32.ofInt (t : Int))), some (.int (Int32.ofInt (t2 : Int))), some (.int (Int32.ofInt day)), some (.int (Int32.ofInt (4 * (t : Int) + (t2 : Int)))), some (.int (Int32.ofInt one)), some (.int (Int32.ofInt two)), some (.int (Int32.ofInt s0)), some (.int (Int32.ofInt s1)), some (.ref q12), some (.int ((Int32.ofInt d) + (Int32.ofInt (-1)))), some (.ref q105), some (.int (Int32.ofInt (y_by (g0 541) t t2 day d))), some (.int (Int32.ofInt lo)), some (.int (Int32.ofInt hi)), none, none, none, none, none, none, none, none, none, none, none, none], [], h102)) rfl ?_
        rw [yi_add d (-1)]
        rw [show d + (-1) = day - 6 + (n : Int) by omega]
        have es : mt_s (fun j : Nat => me_V (g0 541) t t2 day (u + s_h (one % 12) l) (u + s_h (one % 12 + 1) l) (two / 12) (two % 12) (day - 5 + j)) n (s0, s1) = (s0, s1) := by show (match me_V (g0 541) t t2 day (u + s_h (one % 12) l) (u + s_h (one % 12 + 1) l) (two / 12) (two % 12) (day - 5 + (n : Int)) with | none => (s0, s1) | some p => if (s0, s1).1 ≠ -1000000 ∧ (s0, s1).1 < p.1 then (s0, s1) else p) = _; rw [ev, if_pos (by omega)]
        rw [es] at hM2
        exact ym_l F ht ht2 hd ho hw hR hb12 kk n _ _ _ _ _ _ _ _ _ (by omega) (by omega) hM2 C Y R12 (by omega) (by omega)
      · have c112 := mt (yi_c_ge (a := lo) (b := hi) (by omega) (by omega)).mpr c112
        refine yy_fin.steps (n := 2) (s' := (198, [some (.ref 1), some (.ref w), some (.ref 0), some (.int (Int32.ofInt fr)), some (.int (Int32.ofInt (t : Int))), some (.int (Int32.ofInt (t2 : Int))), some (.int (Int32.ofInt day)), some (.int (Int32.ofInt (4 * (t : Int) + (t2 : Int)))), some (.int (Int32.ofInt one)), some (.int (Int32.ofInt two)), some (.int (Int32.ofInt s0)), some (.int (Int32.ofInt s1)), some (.ref q12), some (.int (Int32.ofInt d)), some (.ref q105), some (.int (Int32.ofInt (y_by (g0 541) t t2 day d))), some (.int (Int32.ofInt lo)), some (.int (Int32.ofInt hi)), none, none, none, none, none, none, none, none, none, none, none, none], [.int (Int32.ofInt (-1000000)), .int (Int32.ofInt s0)], h102)) rfl ?_
        refine yy_fin.ic rfl (fun c113 => ?_) (fun c113 => ?_)
        · have c113 := (yi_c_eq (a := s0) (b := -1000000) (by omega) (by omega)).mp c113
          refine yy_fin.steps (n := 8) (s' := (60, [some (.ref 1), some (.ref w), some (.ref 0), some (.int (Int32.ofInt fr)), some (.int (Int32.ofInt (t : Int))), some (.int (Int32.ofInt (t2 : Int))), some (.int (Int32.ofInt day)), some (.int (Int32.ofInt (4 * (t : Int) + (t2 : Int)))), some (.int (Int32.ofInt one)), some (.int (Int32.ofInt two)), some (.int (Int32.ofInt lo)), some (.int ((Int32.ofInt hi) - (Int32.ofInt lo))), some (.ref q12), some (.int ((Int32.ofInt d) + (Int32.ofInt (-1)))), some (.ref q105), some (.int (Int32.ofInt (y_by (g0 541) t t2 day d))), some (.int (Int32.ofInt lo)), some (.int (Int32.ofInt hi)), none, none, none, none, none, none, none, none, none, none, none, none], [], h102)) rfl ?_
          rw [yi_sub hi lo]
          rw [yi_add d (-1)]
          rw [show d + (-1) = day - 6 + (n : Int) by omega]
          have es : mt_s (fun j : Nat => me_V (g0 541) t t2 day (u + s_h (one % 12) l) (u + s_h (one % 12 + 1) l) (two / 12) (two % 12) (day - 5 + j)) n (s0, s1) = (lo, hi - lo) := by show (match me_V (g0 541) t t2 day (u + s_h (one % 12) l) (u + s_h (one % 12 + 1) l) (two / 12) (two % 12) (day - 5 + (n : Int)) with | none => (s0, s1) | some p => if (s0, s1).1 ≠ -1000000 ∧ (s0, s1).1 < p.1 then (s0, s1) else p) = _; rw [ev, if_neg (show ¬ hi ≤ lo by omega)]; dsimp only; rw [if_neg (by omega)]
          rw [es] at hM2
          exact ym_l F ht ht2 hd ho hw hR hb12 kk n _ _ _ _ _ _ _ _ _ (by omega) (by omega) hM2 C Y R12 (by omega) (by omega)
        · have c113 := mt (yi_c_eq (a := s0) (b := -1000000) (by omega) (by omega)).mpr c113
          refine yy_fin.steps (n := 2) (s' := (205, [some (.ref 1), some (.ref w), some (.ref 0), some (.int (Int32.ofInt fr)), some (.int (Int32.ofInt (t : Int))), some (.int (Int32.ofInt (t2 : Int))), some (.int (Int32.ofInt day)), some (.int (Int32.ofInt (4 * (t : Int) + (t2 : Int)))), some (.int (Int32.ofInt one)), some (.int (Int32.ofInt two)), some (.int (Int32.ofInt s0)), some (.int (Int32.ofInt s1)), some (.ref q12), some (.int (Int32.ofInt d)), some (.ref q105), some (.int (Int32.ofInt (y_by (g0 541) t t2 day d))), some (.int (Int32.ofInt lo)), some (.int (Int32.ofInt hi)), none, none, none, none, none, none, none, none, none, none, none, none], [.int (Int32.ofInt s0), .int (Int32.ofInt lo)], h102)) rfl ?_
          refine yy_fin.ic rfl (fun c114 => ?_) (fun c114 => ?_)
          · have c114 := (yi_c_le (a := lo) (b := s0) (by omega) (by omega)).mp c114
            refine yy_fin.steps (n := 8) (s' := (60, [some (.ref 1), some (.ref w), some (.ref 0), some (.int (Int32.ofInt fr)), some (.int (Int32.ofInt (t : Int))), some (.int (Int32.ofInt (t2 : Int))), some (.int (Int32.ofInt day)), some (.int (Int32.ofInt (4 * (t : Int) + (t2 : Int)))), some (.int (Int32.ofInt one)), some (.int (Int32.ofInt two)), some (.int (Int32.ofInt lo)), some (.int ((Int32.ofInt hi) - (Int32.ofInt lo))), some (.ref q12), some (.int ((Int32.ofInt d) + (Int32.ofInt (-1)))), some (.ref q105), some (.int (Int32.ofInt (y_by (g0 541) t t2 day d))), some (.int (Int32.ofInt lo)), some (.int (Int32.ofInt hi)), none, none, none, none, none, none, none, none, none, none, none, none], [], h102)) rfl ?_
            rw [yi_sub hi lo]
            rw [yi_add d (-1)]
            rw [show d + (-1) = day - 6 + (n : Int) by omega]
            have es : mt_s (fun j : Nat => me_V (g0 541) t t2 day (u + s_h (one % 12) l) (u + s_h (one % 12 + 1) l) (two / 12) (two % 12) (day - 5 + j)) n (s0, s1) = (lo, hi - lo) := by show (match me_V (g0 541) t t2 day (u + s_h (one % 12) l) (u + s_h (one % 12 + 1) l) (two / 12) (two % 12) (day - 5 + (n : Int)) with | none => (s0, s1) | some p => if (s0, s1).1 ≠ -1000000 ∧ (s0, s1).1 < p.1 then (s0, s1) else p) = _; rw [ev, if_neg (show ¬ hi ≤ lo by omega)]; dsimp only; rw [if_neg (by omega)]
            rw [es] at hM2
            exact ym_l F ht ht2 hd ho hw hR hb12 kk n _ _ _ _ _ _ _ _ _ (by omega) (by omega) hM2 C Y R12 (by omega) (by omega)
          · have c114 := mt (yi_c_le (a := lo) (b := s0) (by omega) (by omega)).mpr c114
            refine yy_fin.steps (n := 3) (s' := (60, [some (.ref 1), some (.ref w), some (.ref 0), some (.int (Int32.ofInt fr)), some (.int (Int32.ofInt (t : Int))), some (.int (Int32.ofInt (t2 : Int))), some (.int (Int32.ofInt day)), some (.int (Int32.ofInt (4 * (t : Int) + (t2 : Int)))), some (.int (Int32.ofInt one)), some (.int (Int32.ofInt two)), some (.int (Int32.ofInt s0)), some (.int (Int32.ofInt s1)), some (.ref q12), some (.int ((Int32.ofInt d) + (Int32.ofInt (-1)))), some (.ref q105), some (.int (Int32.ofInt (y_by (g0 541) t t2 day d))), some (.int (Int32.ofInt lo)), some (.int (Int32.ofInt hi)), none, none, none, none, none, none, none, none, none, none, none, none], [], h102)) rfl ?_
            rw [yi_add d (-1)]
            rw [show d + (-1) = day - 6 + (n : Int) by omega]
            have es : mt_s (fun j : Nat => me_V (g0 541) t t2 day (u + s_h (one % 12) l) (u + s_h (one % 12 + 1) l) (two / 12) (two % 12) (day - 5 + j)) n (s0, s1) = (s0, s1) := by show (match me_V (g0 541) t t2 day (u + s_h (one % 12) l) (u + s_h (one % 12 + 1) l) (two / 12) (two % 12) (day - 5 + (n : Int)) with | none => (s0, s1) | some p => if (s0, s1).1 ≠ -1000000 ∧ (s0, s1).1 < p.1 then (s0, s1) else p) = _; rw [ev, if_neg (show ¬ hi ≤ lo by omega)]; dsimp only; rw [if_pos (by omega)]
            rw [es] at hM2
            exact ym_l F ht ht2 hd ho hw hR hb12 kk n _ _ _ _ _ _ _ _ _ (by omega) (by omega) hM2 C Y R12 (by omega) (by omega)
theorem ym_a (F : yCf own w lst g0) (ht : (t : Int) < (g0 541 0).toInt) (ht2 : (t2 : Int) < (g0 541 0).toInt) (hd : 0 ≤ day ∧ day ≤ 35999) (hX : X.1 = some (L, xs)) (hL : L ≤ 100000) (hfr : 0 ≤ fr ∧ fr ≤ 900000) (C : yCx own w lst g0 h g) (hB : h.1.1 + 300 < yy_B) (kk : ∀ h' g' one two i10 i11 x12 i13 x14 x15 x16 x17, yCx own w lst g0 h' g' → yx (yAk w) 40 80 h h' → yy_fin X 300 (266, [some (.ref 1), some (.ref w), some (.ref 0), some (.int (Int32.ofInt fr)), some (.int (Int32.ofInt (t : Int))), some (.int (Int32.ofInt (t2 : Int))), some (.int (Int32.ofInt day)), some (.int (Int32.ofInt (4 * (t : Int) + (t2 : Int)))), some (.int (Int32.ofInt one)), some (.int (Int32.ofInt two)), some (.int (Int32.ofInt i10)), some (.int (Int32.ofInt i11)), some (zz_val x12), some (.int (Int32.ofInt i13)), x14, x15, x16, x17, none, none, none, none, none, none, none, none, none, none, none, none], [], h') φ) : yy_fin X 300 (0, zz_in [.ref 1, .ref w, .ref 0, .int (Int32.ofInt fr), .int (Int32.ofInt (t : Int)), .int (Int32.ofInt (t2 : Int)), .int (Int32.ofInt day)] (zz_nl 300), [], h) φ := by
  have Y : yx (yAk w) 0 0 h h := yx.rf
  have n4 := F.2.2.2.1
  have hq := F.2.2.2.2.1
  have hY := Y.1
  have hg := C.2.1.2
  have l8 := F.2.2.1.2.1
  refine yy_fin.steps (n := 8) (s' := (11, [some (.ref 1), some (.ref w), some (.ref 0), some (.int (Int32.ofInt fr)), some (.int (Int32.ofInt (t : Int))), some (.int (Int32.ofInt (t2 : Int))), some (.int (Int32.ofInt day)), some (.int (((Int32.ofInt 4) * (Int32.ofInt (t : Int))) + (Int32.ofInt (t2 : Int)))), none, none, none, none, none, none, none, none, none, none, none, none, none, none, none, none, none, none, none, none, none, none], [.int (Int32.ofInt fr), .ref 0], h)) rfl ?_
  rw [yi_mul 4 (t : Int)]
  rw [yi_add (4 * (t : Int)) (t2 : Int)]
  refine yy_fin.calls (as := [.ref 0, .int (Int32.ofInt fr)]) rfl (by decide) rfl rfl (Nat.le_of_ble_eq_true rfl) (Nat.le_of_ble_eq_true rfl) (yl_pick hX hL (k := fr) (by omega)) ?_
  rintro v h9 ⟨x1, rfl, ax1, bx1, e9⟩
  obtain rfl := e9.symm
  refine yy_fin.steps (n := 1) (s' := (16, [some (.ref 1), some (.ref w), some (.ref 0), some (.int (Int32.ofInt fr)), some (.int (Int32.ofInt (t : Int))), some (.int (Int32.ofInt (t2 : Int))), some (.int (Int32.ofInt day)), some (.int (Int32.ofInt ((4 * (t : Int)) + (t2 : Int)))), none, none, none, none, none, none, none, none, none, none, none, none, none, none, none, none, none, none, none, none, none, none], [.int (Int32.ofInt 24), .int (Int32.ofInt x1)], h)) rfl ?_
  refine yy_fin.rm rfl (by decide) ?_
  rw [yi_rem (a := x1) (b := 24) (by omega) (by omega)]
  obtain ⟨one, eone⟩ : ∃ z, z = x1 % 24 := ⟨_, rfl⟩
  rw [← eone]
  refine yy_fin.steps (n := 5) (s' := (23, [some (.ref 1), some (.ref w), some (.ref 0), some (.int (Int32.ofInt fr)), some (.int (Int32.ofInt (t : Int))), some (.int (Int32.ofInt (t2 : Int))), some (.int (Int32.ofInt day)), some (.int (Int32.ofInt ((4 * (t : Int)) + (t2 : Int)))), some (.int (Int32.ofInt one)), none, none, none, none, none, none, none, none, none, none, none, none, none, none, none, none, none, none, none, none, none], [.int ((Int32.ofInt fr) + (Int32.ofInt 1)), .ref 0], h)) rfl ?_
  rw [yi_add fr 1]
  refine yy_fin.calls (as := [.ref 0, .int (Int32.ofInt (fr + 1))]) rfl (by decide) rfl rfl (Nat.le_of_ble_eq_true rfl) (Nat.le_of_ble_eq_true rfl) (yl_pick hX hL (k := fr + 1) (by omega)) ?_
  rintro v h9 ⟨x2, rfl, ax2, bx2, e9⟩
  obtain rfl := e9.symm
  refine yy_fin.steps (n := 1) (s' := (28, [some (.ref 1), some (.ref w), some (.ref 0), some (.int (Int32.ofInt fr)), some (.int (Int32.ofInt (t : Int))), some (.int (Int32.ofInt (t2 : Int))), some (.int (Int32.ofInt day)), some (.int (Int32.ofInt ((4 * (t : Int)) + (t2 : Int)))), some (.int (Int32.ofInt one)), none, none, none, none, none, none, none, none, none, none, none, none, none, none, none, none, none, none, none, none, none], [.int (Int32.ofInt 24), .int (Int32.ofInt x2)], h)) rfl ?_
  refine yy_fin.rm rfl (by decide) ?_
  rw [yi_rem (a := x2) (b := 24) (by omega) (by omega)]
  obtain ⟨two, etwo⟩ : ∃ z, z = x2 % 24 := ⟨_, rfl⟩
  rw [← etwo]
  refine yy_fin.steps (n := 10) (s' := (48, [some (.ref 1), some (.ref w), some (.ref 0), some (.int (Int32.ofInt fr)), some (.int (Int32.ofInt (t : Int))), some (.int (Int32.ofInt (t2 : Int))), some (.int (Int32.ofInt day)), some (.int (Int32.ofInt ((4 * (t : Int)) + (t2 : Int)))), some (.int (Int32.ofInt one)), some (.int (Int32.ofInt two)), some (.int (Int32.ofInt (-1000000))), some (.int (Int32.ofInt (-1000000))), none, none, none, none, none, none, none, none, none, none, none, none, none, none, none, none, none, none], [.int (Int32.ofInt 12), .int (Int32.ofInt one), .int (Int32.ofInt day), .int (Int32.ofInt (t : Int)), .ref w], h)) rfl ?_
  refine yy_fin.dv rfl (by decide) ?_
  rw [yi_div (a := one) (b := 12) (by omega) (by omega)]
  obtain ⟨fw101, oW101⟩ := C.ow
  refine yy_fin.cv (as := [.int (Int32.ofInt (t : Int)), .int (Int32.ofInt day), .int (Int32.ofInt (one / 12))]) rfl rfl rfl oW101 (Nat.le_of_ble_eq_true rfl) (Nat.le_of_ble_eq_true rfl) (yc_half2 F C ht (day := day) (half := one / 12) (by omega) (by omega) (by omega)) ?_
  rintro v h101 ⟨C, x101, q101, rfl, H101⟩
  have hx101 := x101.1
  replace Y := Y.tr x101 (fun _ _ e => e)
  replace hY := Y.1
  suffices K102 : yy_fin X 300 (54, [some (.ref 1), some (.ref w), some (.ref 0), some (.int (Int32.ofInt fr)), some (.int (Int32.ofInt (t : Int))), some (.int (Int32.ofInt (t2 : Int))), some (.int (Int32.ofInt day)), some (.int (Int32.ofInt ((4 * (t : Int)) + (t2 : Int)))), some (.int (Int32.ofInt one)), some (.int (Int32.ofInt two)), some (.int (Int32.ofInt (-1000000))), some (.int (Int32.ofInt (-1000000))), some (zz_val q101), none, none, none, none, none, none, none, none, none, none, none, none, none, none, none, none, none], [], h101) φ by cases q101 <;> exact yy_fin.steps (n := 1) rfl K102
  refine yy_fin.steps (n := 3) (s' := (58, [some (.ref 1), some (.ref w), some (.ref 0), some (.int (Int32.ofInt fr)), some (.int (Int32.ofInt (t : Int))), some (.int (Int32.ofInt (t2 : Int))), some (.int (Int32.ofInt day)), some (.int (Int32.ofInt ((4 * (t : Int)) + (t2 : Int)))), some (.int (Int32.ofInt one)), some (.int (Int32.ofInt two)), some (.int (Int32.ofInt (-1000000))), some (.int (Int32.ofInt (-1000000))), some (zz_val q101), none, none, none, none, none, none, none, none, none, none, none, none, none, none, none, none, none], [.int ((Int32.ofInt day) + (Int32.ofInt 5))], h101)) rfl ?_
  rw [yi_add day 5]
  suffices K103 : yy_fin X 300 (60, [some (.ref 1), some (.ref w), some (.ref 0), some (.int (Int32.ofInt fr)), some (.int (Int32.ofInt (t : Int))), some (.int (Int32.ofInt (t2 : Int))), some (.int (Int32.ofInt day)), some (.int (Int32.ofInt ((4 * (t : Int)) + (t2 : Int)))), some (.int (Int32.ofInt one)), some (.int (Int32.ofInt two)), some (.int (Int32.ofInt (-1000000))), some (.int (Int32.ofInt (-1000000))), some (zz_val q101), some (.int (Int32.ofInt (day + 5))), none, none, none, none, none, none, none, none, none, none, none, none, none, none, none, none], [], h101) φ by cases q101 <;> exact yy_fin.steps (n := 1) rfl K103
  suffices J : ∀ (h' : zz_H) (d' : Int) (x14 x15 x16 x17 : Option Value), yCx own w lst g0 h' g → yx (yAk w) 40 80 h h' → yy_fin X 300 (228, [some (.ref 1), some (.ref w), some (.ref 0), some (.int (Int32.ofInt fr)), some (.int (Int32.ofInt (t : Int))), some (.int (Int32.ofInt (t2 : Int))), some (.int (Int32.ofInt day)), some (.int (Int32.ofInt ((4 * (t : Int)) + (t2 : Int)))), some (.int (Int32.ofInt one)), some (.int (Int32.ofInt two)), some (.int (Int32.ofInt (s_132 (g0 541) t t2 (one / 12) (one % 12) (two / 12) (two % 12) day 0))), some (.int (Int32.ofInt (s_132 (g0 541) t t2 (one / 12) (one % 12) (two / 12) (two % 12) day 1))), some (zz_val q101), some (.int (Int32.ofInt d')), x14, x15, x16, x17, none, none, none, none, none, none, none, none, none, none, none, none], [], h') φ by
    rcases H101 with ⟨rfl, eo⟩ | ⟨q12, u, l, rfl, eo, R12⟩
    · have e0 : s_132 (g0 541) t t2 (one / 12) (one % 12) (two / 12) (two % 12) day 0 = -1000000 := by unfold s_132; rw [eo]
      have e1 : s_132 (g0 541) t t2 (one / 12) (one % 12) (two / 12) (two % 12) day 1 = -1000000 := by unfold s_132; rw [eo]
      rw [e0, e1] at J
      refine yy_fin.steps (n := 4) (s' := (66, [some (.ref 1), some (.ref w), some (.ref 0), some (.int (Int32.ofInt fr)), some (.int (Int32.ofInt (t : Int))), some (.int (Int32.ofInt (t2 : Int))), some (.int (Int32.ofInt day)), some (.int (Int32.ofInt ((4 * (t : Int)) + (t2 : Int)))), some (.int (Int32.ofInt one)), some (.int (Int32.ofInt two)), some (.int (Int32.ofInt (-1000000))), some (.int (Int32.ofInt (-1000000))), some (.null), some (.int (Int32.ofInt (day + 5))), none, none, none, none, none, none, none, none, none, none, none, none, none, none, none, none], [.int ((Int32.ofInt day) - (Int32.ofInt 5)), .int (Int32.ofInt (day + 5))], h101)) rfl ?_
      rw [yi_sub day 5]
      refine yy_fin.ic rfl (fun cq => absurd ((yi_c_lt (a := day + 5) (b := day - 5) (by omega) (by omega)).mp cq) (by omega)) (fun cq => ?_)
      have cq := mt (yi_c_lt (a := day + 5) (b := day - 5) (by omega) (by omega)).mpr cq
      refine yy_fin.steps (n := 2) (s' := (228, [some (.ref 1), some (.ref w), some (.ref 0), some (.int (Int32.ofInt fr)), some (.int (Int32.ofInt (t : Int))), some (.int (Int32.ofInt (t2 : Int))), some (.int (Int32.ofInt day)), some (.int (Int32.ofInt ((4 * (t : Int)) + (t2 : Int)))), some (.int (Int32.ofInt one)), some (.int (Int32.ofInt two)), some (.int (Int32.ofInt (-1000000))), some (.int (Int32.ofInt (-1000000))), some (.null), some (.int (Int32.ofInt (day + 5))), none, none, none, none, none, none, none, none, none, none, none, none, none, none, none, none], [], h101)) rfl ?_
      exact J _ _ _ _ _ _ C (Y.le (by omega) (by omega))
    · have hb12 := hv_bnd2 F.2.2.2 ht eo
      have sh0 := s_h_b (x := one % 12) (l := l) (by omega) (by omega)
      have sh1 := s_h_b (x := one % 12 + 1) (l := l) (by omega) (by omega)
      have hm := me_back (f := two / 12) (x := two % 12) (day := day) F.2.2.2 ht ht2 (A0 := (u + s_h (one % 12) l)) (A1 := (u + s_h (one % 12 + 1) l)) (by omega) (by omega) (by omega)
      have e0 : s_132 (g0 541) t t2 (one / 12) (one % 12) (two / 12) (two % 12) day 0 = (fd_i (me_f (g0 541) t t2 day (u + s_h (one % 12) l) (u + s_h (one % 12 + 1) l) (two / 12) (two % 12)) 0 9 (-1000000, 0)).1 := by unfold s_132; rw [eo]; exact if_pos rfl
      have e1 : s_132 (g0 541) t t2 (one / 12) (one % 12) (two / 12) (two % 12) day 1 = if (fd_i (me_f (g0 541) t t2 day (u + s_h (one % 12) l) (u + s_h (one % 12 + 1) l) (two / 12) (two % 12)) 0 9 (-1000000, 0)).1 = -1000000 then -1000000 else (fd_i (me_f (g0 541) t t2 day (u + s_h (one % 12) l) (u + s_h (one % 12 + 1) l) (two / 12) (two % 12)) 0 9 (-1000000, 0)).2 := by unfold s_132; rw [eo]; exact if_neg (by decide)
      rw [← e1, ← e0] at hm
      rw [show day + 5 = day - 6 + ((11 : Nat) : Int) by omega]
      exact ym_l F ht ht2 hd (by omega) (by omega) (A := 40) (E := 80) (by omega) hb12 J 11 _ _ _ _ _ _ _ _ _ (by omega) (by omega) hm C Y R12.1 (by omega) (by omega)
  intro h7 d' x14 x15 x16 x17 C Y
  replace hY := Y.1
  refine yy_fin.steps (n := 6) (s' := (238, [some (.ref 1), some (.ref w), some (.ref 0), some (.int (Int32.ofInt fr)), some (.int (Int32.ofInt (t : Int))), some (.int (Int32.ofInt (t2 : Int))), some (.int (Int32.ofInt day)), some (.int (Int32.ofInt ((4 * (t : Int)) + (t2 : Int)))), some (.int (Int32.ofInt one)), some (.int (Int32.ofInt two)), some (.int (Int32.ofInt (s_132 (g0 541) t t2 (one / 12) (one % 12) (two / 12) (two % 12) day 0))), some (.int (Int32.ofInt (s_132 (g0 541) t t2 (one / 12) (one % 12) (two / 12) (two % 12) day 1))), some (zz_val q101), some (.int (Int32.ofInt d')), x14, x15, x16, x17, none, none, none, none, none, none, none, none, none, none, none, none], [.int (Int32.ofInt 0), .int (Int32.ofInt day), .int (Int32.ofInt two), .int (Int32.ofInt one), .int (Int32.ofInt ((4 * (t : Int)) + (t2 : Int))), .ref 1], h7)) rfl ?_
  obtain ⟨g105, r105⟩ := qi_132 F C ht ht2 (f := one / 12) (m := one % 12) (k := two / 12) (n := two % 12) (i := 0) hd (by omega) (by omega) (by omega) (by omega) (by omega)
  have r105 := fun {X : yy_X} => @r105 X
  rw [show 12 * (one / 12) + one % 12 = one by omega, show 12 * (two / 12) + two % 12 = two by omega] at r105
  obtain ⟨fs105, oo105⟩ := C.o
  refine yy_fin.cv (as := [.int (Int32.ofInt ((4 * (t : Int)) + (t2 : Int))), .int (Int32.ofInt one), .int (Int32.ofInt two), .int (Int32.ofInt day), .int (Int32.ofInt 0)]) rfl rfl rfl oo105 (Nat.le_of_ble_eq_true rfl) (Nat.le_of_ble_eq_true rfl) r105 ?_
  rintro v h105 ⟨rfl, C, x105⟩
  have hx105 := x105.1
  replace Y := Y.tr x105 (fun _ _ e => e)
  replace hY := Y.1
  refine yy_fin.steps (n := 1) (s' := (243, [some (.ref 1), some (.ref w), some (.ref 0), some (.int (Int32.ofInt fr)), some (.int (Int32.ofInt (t : Int))), some (.int (Int32.ofInt (t2 : Int))), some (.int (Int32.ofInt day)), some (.int (Int32.ofInt ((4 * (t : Int)) + (t2 : Int)))), some (.int (Int32.ofInt one)), some (.int (Int32.ofInt two)), some (.int (Int32.ofInt (s_132 (g0 541) t t2 (one / 12) (one % 12) (two / 12) (two % 12) day 0))), some (.int (Int32.ofInt (s_132 (g0 541) t t2 (one / 12) (one % 12) (two / 12) (two % 12) day 1))), some (zz_val q101), some (.int (Int32.ofInt d')), x14, x15, x16, x17, none, none, none, none, none, none, none, none, none, none, none, none], [.int (Int32.ofInt (s_132 (g0 541) t t2 (one / 12) (one % 12) (two / 12) (two % 12) day 0)), .int (Int32.ofInt (s_132 (g0 541) t t2 (one / 12) (one % 12) (two / 12) (two % 12) day 0))], h105)) rfl ?_
  refine yy_fin.ic rfl (fun cz => absurd (congrArg Int32.ofInt (rfl : (s_132 (g0 541) t t2 (one / 12) (one % 12) (two / 12) (two % 12) day 0) = (s_132 (g0 541) t t2 (one / 12) (one % 12) (two / 12) (two % 12) day 0))) (y_cne cz)) (fun _ => ?_)
  refine yy_fin.steps (n := 6) (s' := (256, [some (.ref 1), some (.ref w), some (.ref 0), some (.int (Int32.ofInt fr)), some (.int (Int32.ofInt (t : Int))), some (.int (Int32.ofInt (t2 : Int))), some (.int (Int32.ofInt day)), some (.int (Int32.ofInt ((4 * (t : Int)) + (t2 : Int)))), some (.int (Int32.ofInt one)), some (.int (Int32.ofInt two)), some (.int (Int32.ofInt (s_132 (g0 541) t t2 (one / 12) (one % 12) (two / 12) (two % 12) day 0))), some (.int (Int32.ofInt (s_132 (g0 541) t t2 (one / 12) (one % 12) (two / 12) (two % 12) day 1))), some (zz_val q101), some (.int (Int32.ofInt d')), x14, x15, x16, x17, none, none, none, none, none, none, none, none, none, none, none, none], [.int (Int32.ofInt 1), .int (Int32.ofInt day), .int (Int32.ofInt two), .int (Int32.ofInt one), .int (Int32.ofInt ((4 * (t : Int)) + (t2 : Int))), .ref 1], h105)) rfl ?_
  obtain ⟨g106, r106⟩ := qi_132 F C ht ht2 (f := one / 12) (m := one % 12) (k := two / 12) (n := two % 12) (i := 1) hd (by omega) (by omega) (by omega) (by omega) (by omega)
  have r106 := fun {X : yy_X} => @r106 X
  rw [show 12 * (one / 12) + one % 12 = one by omega, show 12 * (two / 12) + two % 12 = two by omega] at r106
  obtain ⟨fs106, oo106⟩ := C.o
  refine yy_fin.cv (as := [.int (Int32.ofInt ((4 * (t : Int)) + (t2 : Int))), .int (Int32.ofInt one), .int (Int32.ofInt two), .int (Int32.ofInt day), .int (Int32.ofInt 1)]) rfl rfl rfl oo106 (Nat.le_of_ble_eq_true rfl) (Nat.le_of_ble_eq_true rfl) r106 ?_
  rintro v h106 ⟨rfl, C, x106⟩
  have hx106 := x106.1
  replace Y := Y.tr x106 (fun _ _ e => e)
  replace hY := Y.1
  refine yy_fin.steps (n := 1) (s' := (261, [some (.ref 1), some (.ref w), some (.ref 0), some (.int (Int32.ofInt fr)), some (.int (Int32.ofInt (t : Int))), some (.int (Int32.ofInt (t2 : Int))), some (.int (Int32.ofInt day)), some (.int (Int32.ofInt ((4 * (t : Int)) + (t2 : Int)))), some (.int (Int32.ofInt one)), some (.int (Int32.ofInt two)), some (.int (Int32.ofInt (s_132 (g0 541) t t2 (one / 12) (one % 12) (two / 12) (two % 12) day 0))), some (.int (Int32.ofInt (s_132 (g0 541) t t2 (one / 12) (one % 12) (two / 12) (two % 12) day 1))), some (zz_val q101), some (.int (Int32.ofInt d')), x14, x15, x16, x17, none, none, none, none, none, none, none, none, none, none, none, none], [.int (Int32.ofInt (s_132 (g0 541) t t2 (one / 12) (one % 12) (two / 12) (two % 12) day 1)), .int (Int32.ofInt (s_132 (g0 541) t t2 (one / 12) (one % 12) (two / 12) (two % 12) day 1))], h106)) rfl ?_
  refine yy_fin.ic rfl (fun _ => ?_) (fun cz => absurd (y_ceq (congrArg Int32.ofInt (rfl : (s_132 (g0 541) t t2 (one / 12) (one % 12) (two / 12) (two % 12) day 1) = (s_132 (g0 541) t t2 (one / 12) (one % 12) (two / 12) (two % 12) day 1)))) cz)
  exact kk _ _ _ _ _ _ _ _ _ _ _ _ C (Y.le (by omega) (by omega))
end YD20
