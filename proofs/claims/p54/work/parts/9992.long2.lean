/-! THE LAW ASKS OF MANY DAYS (298): one day after another (printed by wip/p54/w13.py) -/
section YD13
variable {X : yy_X} {own : yOwn} {w t L : Nat} {xs : Nat → Int32} {lst : List (yBell × List fl_T)} {g0 g : aa_G} {h h0 : zz_H} {day fr m hr nx : Int} {φ : Option Value → zz_H → Prop}
theorem yc_light2 (F : yCf own w lst g0) (C : yCx own w lst g0 h g) (ht : (t : Int) < (g0 541 0).toInt) {d : Int} (hd : -1000000 ≤ d ∧ d ≤ 1000000) (hB : h.1.1 + 3 < yy_B) : yy_fin X 299 (0, zz_in [.ref w, .int (Int32.ofInt (t : Int)), .int (Int32.ofInt d)] (zz_nl 299), [], h) (fun r h' => r = some (.int (Int32.ofInt (s_l (g0 541) t d))) ∧ yCx own w lst g0 h' g ∧ yx (yAk w) 3 6 h h') := by
  refine (yc_light F C ht hd hB).mono fun r h' z => ⟨z.1.trans ?_, z.2⟩
  unfold s_l
  cases hv_t (g0 541) t d 0 with
  | none => rfl
  | some p => rfl
theorem bs_f_b {a : Nat → Int32} {i b v : Int} {d : Nat} (B : yWb a) (ht : (t : Int) < (a 0).toInt) (hh : 0 ≤ hr ∧ hr ≤ 11) (hd : d ≤ 40000) (h1 : -2 ≤ b ∧ b ≤ 40000) (h2 : -200000 ≤ v ∧ v ≤ 200000) : (-2 ≤ (bs_f a t hr i d (b, v)).1 ∧ (bs_f a t hr i d (b, v)).1 ≤ 40000) ∧ (-200000 ≤ (bs_f a t hr i d (b, v)).2 ∧ (bs_f a t hr i d (b, v)).2 ≤ 200000) := by
  unfold bs_f
  cases e : hv_t a t (d : Int) 0 with
  | none => exact ⟨h1, h2⟩
  | some p =>
    obtain ⟨u, l⟩ := p
    have vb := bs_v_b (i := i) B ht hh e
    dsimp only
    split
    · exact ⟨h1, h2⟩
    · exact ⟨by dsimp only; omega, vb⟩
theorem gr_f_b {a : Nat → Int32} {x y z : Int} {d : Nat} (B : yWb a) (ht : (t : Int) < (a 0).toInt) (h2 : -1000000 ≤ y ∧ y ≤ 200000) : -1000000 ≤ (gr_f a t d (x, y, z)).2.1 ∧ (gr_f a t d (x, y, z)).2.1 ≤ 200000 := by
  have l1 := s_l_b (d := (d : Int)) B ht
  have l2 := s_l_b (d := (d : Int) - 1) B ht
  unfold gr_f
  split
  · exact h2
  · dsimp only
    split
    · exact h2
    · dsimp only
      omega
theorem yl_lc (F : yCf own w lst g0) (ht : (t : Int) < (g0 541 0).toInt) (hd : 0 ≤ day ∧ day ≤ 35999) (M : yMo own w h0.1.1) (hm : 1 ≤ m ∧ m ≤ 25) (hhr : 0 ≤ hr ∧ hr ≤ 11) (hnx : hr + 1 ≤ nx ∧ nx ≤ 12) {b10 b11 b16 q18 a e d : Nat} {x19 x20 x21 x22 : Option Value} {wk gs gt go st u l b0 b1 b2 v0 v1 v2 : Int} {Z : Nat → Int} (hdd : d ≤ 35999) (h9 : b10 < b11 ∧ b11 < b16) (nq : q18 ≠ b10 ∧ q18 ≠ b11 ∧ q18 ≠ b16) (eo : hv_t (g0 541) t (d : Int) 0 = some (u, l)) (hp0 : -2 ≤ b0 ∧ b0 ≤ 40000) (hp1 : -2 ≤ b1 ∧ b1 ≤ 40000) (hp2 : -2 ≤ b2 ∧ b2 ≤ 40000) (hu0 : -200000 ≤ v0 ∧ v0 ≤ 200000) (hu1 : -200000 ≤ v1 ∧ v1 ≤ 200000) (hu2 : -200000 ≤ v2 ∧ v2 ≤ 200000) (C : yCx own w lst g0 h g) (Y : yx (yAk w) (a + 290) (e + 1250) h0 h) (hB : h.1.1 + 20 < yy_B) (O10 : yRm h0 h w b10 [Int32.ofInt b0, Int32.ofInt b1, Int32.ofInt b2]) (O11 : yRm h0 h w b11 [Int32.ofInt v0, Int32.ofInt v1, Int32.ofInt v2]) (O16 : yRm h0 h w b16 (y_9 Z)) (R18 : yRw h w q18 [Int32.ofInt u, Int32.ofInt (u + l)]) (kk : ∀ h' c19 p0 u0 p1 u1 p2 u2, (p0, u0) = bs_f (g0 541) t hr 0 d (b0, v0) → (p1, u1) = bs_f (g0 541) t hr 1 d (b1, v1) → (p2, u2) = bs_f (g0 541) t hr 2 d (b2, v2) → yCx own w lst g0 h' g → yx (yAk w) (a + 300) (e + 1300) h0 h' → yRm h0 h' w b10 [Int32.ofInt p0, Int32.ofInt p1, Int32.ofInt p2] → yRm h0 h' w b11 [Int32.ofInt u0, Int32.ofInt u1, Int32.ofInt u2] → yRm h0 h' w b16 (y_9 Z) → yy_fin X 298 (328, [some (.ref 1), some (.ref w), some (.ref 0), some (.int (Int32.ofInt fr)), some (.int (Int32.ofInt (t : Int))), some (.int (Int32.ofInt day)), some (.int (Int32.ofInt m)), some (.int (Int32.ofInt hr)), some (.int (Int32.ofInt nx)), some (.int (Int32.ofInt (wk + (s_h nx l - s_h hr l)))), some (.ref b10), some (.ref b11), some (.int (Int32.ofInt gs)), some (.int (Int32.ofInt gt)), some (.int (Int32.ofInt go)), some (.int (Int32.ofInt st)), some (.ref b16), some (.int (Int32.ofInt (d : Int))), some (.ref q18), some (.ref c19), some (.int (Int32.ofInt 3)), x21, x22, none, none, none, none, none], [], h') φ) : yy_fin X 298 (198, [some (.ref 1), some (.ref w), some (.ref 0), some (.int (Int32.ofInt fr)), some (.int (Int32.ofInt (t : Int))), some (.int (Int32.ofInt day)), some (.int (Int32.ofInt m)), some (.int (Int32.ofInt hr)), some (.int (Int32.ofInt nx)), some (.int (Int32.ofInt wk)), some (.ref b10), some (.ref b11), some (.int (Int32.ofInt gs)), some (.int (Int32.ofInt gt)), some (.int (Int32.ofInt go)), some (.int (Int32.ofInt st)), some (.ref b16), some (.int (Int32.ofInt (d : Int))), some (.ref q18), x19, x20, x21, x22, none, none, none, none, none], [], h) φ := by
  have n4 := F.2.2.2.1
  have hq := F.2.2.2.2.1
  have hY := Y.1
  have hg := C.2.1.2
  have l8 := F.2.2.1.2.1
  have hb18 := hv_bnd2 F.2.2.2 ht eo
  have hl4 := (hv_bnd F.2.2.2 ht eo).2.2.2.1 (by decide)
  have vb0 := bs_v_b (i := 0) F.2.2.2 ht hhr eo
  have vb1 := bs_v_b (i := 1) F.2.2.2 ht hhr eo
  have vb2 := bs_v_b (i := 2) F.2.2.2 ht hhr eo
  have sh0 := s_h_b (x := hr) (l := l) (by omega) (by omega)
  have sh1 := s_h_b (x := hr + 1) (l := l) (by omega) (by omega)
  have shn := s_h_b (x := nx) (l := l) (by omega) (by omega)
  have hZ := hY
  refine yy_fin.steps (n := 4) (s' := (205, [some (.ref 1), some (.ref w), some (.ref 0), some (.int (Int32.ofInt fr)), some (.int (Int32.ofInt (t : Int))), some (.int (Int32.ofInt day)), some (.int (Int32.ofInt m)), some (.int (Int32.ofInt hr)), some (.int (Int32.ofInt nx)), some (.int (Int32.ofInt wk)), some (.ref b10), some (.ref b11), some (.int (Int32.ofInt gs)), some (.int (Int32.ofInt gt)), some (.int (Int32.ofInt go)), some (.int (Int32.ofInt st)), some (.ref b16), some (.int (Int32.ofInt (d : Int))), some (.ref q18), x19, x20, x21, x22, none, none, none, none, none], [.int (Int32.ofInt nx), .ref q18, .ref w, .int (Int32.ofInt wk)], h)) rfl ?_
  obtain ⟨fw101, oW101⟩ := C.ow
  refine yy_fin.cv (as := [.ref q18, .int (Int32.ofInt nx)]) rfl rfl rfl oW101 (Nat.le_of_ble_eq_true rfl) (Nat.le_of_ble_eq_true rfl) (yc_hour2 F C R18 hb18 (x := nx) (by omega)) ?_
  rintro v h9 ⟨rfl, e9⟩
  obtain rfl := e9.symm
  refine yy_fin.steps (n := 3) (s' := (213, [some (.ref 1), some (.ref w), some (.ref 0), some (.int (Int32.ofInt fr)), some (.int (Int32.ofInt (t : Int))), some (.int (Int32.ofInt day)), some (.int (Int32.ofInt m)), some (.int (Int32.ofInt hr)), some (.int (Int32.ofInt nx)), some (.int (Int32.ofInt wk)), some (.ref b10), some (.ref b11), some (.int (Int32.ofInt gs)), some (.int (Int32.ofInt gt)), some (.int (Int32.ofInt go)), some (.int (Int32.ofInt st)), some (.ref b16), some (.int (Int32.ofInt (d : Int))), some (.ref q18), x19, x20, x21, x22, none, none, none, none, none], [.int (Int32.ofInt hr), .ref q18, .ref w, .int (Int32.ofInt (u + s_h nx l)), .int (Int32.ofInt wk)], h)) rfl ?_
  obtain ⟨fw102, oW102⟩ := C.ow
  refine yy_fin.cv (as := [.ref q18, .int (Int32.ofInt hr)]) rfl rfl rfl oW102 (Nat.le_of_ble_eq_true rfl) (Nat.le_of_ble_eq_true rfl) (yc_hour2 F C R18 hb18 (x := hr) (by omega)) ?_
  rintro v h9 ⟨rfl, e9⟩
  obtain rfl := e9.symm
  refine yy_fin.steps (n := 2) (s' := (218, [some (.ref 1), some (.ref w), some (.ref 0), some (.int (Int32.ofInt fr)), some (.int (Int32.ofInt (t : Int))), some (.int (Int32.ofInt day)), some (.int (Int32.ofInt m)), some (.int (Int32.ofInt hr)), some (.int (Int32.ofInt nx)), some (.int (Int32.ofInt wk)), some (.ref b10), some (.ref b11), some (.int (Int32.ofInt gs)), some (.int (Int32.ofInt gt)), some (.int (Int32.ofInt go)), some (.int (Int32.ofInt st)), some (.ref b16), some (.int (Int32.ofInt (d : Int))), some (.ref q18), x19, x20, x21, x22, none, none, none, none, none], [.int ((Int32.ofInt wk) + ((Int32.ofInt (u + s_h nx l)) - (Int32.ofInt (u + s_h hr l))))], h)) rfl ?_
  rw [yi_sub (u + s_h nx l) (u + s_h hr l)]
  rw [yi_add wk ((u + s_h nx l) - (u + s_h hr l))]
  rw [show wk + ((u + s_h nx l) - (u + s_h hr l)) = wk + (s_h nx l - s_h hr l) by omega]
  refine yy_fin.steps (n := 2) (s' := (221, [some (.ref 1), some (.ref w), some (.ref 0), some (.int (Int32.ofInt fr)), some (.int (Int32.ofInt (t : Int))), some (.int (Int32.ofInt day)), some (.int (Int32.ofInt m)), some (.int (Int32.ofInt hr)), some (.int (Int32.ofInt nx)), some (.int (Int32.ofInt (wk + (s_h nx l - s_h hr l)))), some (.ref b10), some (.ref b11), some (.int (Int32.ofInt gs)), some (.int (Int32.ofInt gt)), some (.int (Int32.ofInt go)), some (.int (Int32.ofInt st)), some (.ref b16), some (.int (Int32.ofInt (d : Int))), some (.ref q18), x19, x20, x21, x22, none, none, none, none, none], [.int (Int32.ofInt 3)], h)) rfl ?_
  have leO10_104 := O10.le
  have leO11_105 := O11.le
  have leO16_106 := O16.le
  have leR18_107 := yP.le R18.2
  refine yy_fin.ni (n := 3) rfl (by decide) (by decide) (by decide) (by omega) C.2.2.2.2 fun h103 x103 e103 i103 z103 => ?_
  have O19 : yRm h0 h103 w (h.1.1 + 1) [Int32.ofInt 0, Int32.ofInt 0, Int32.ofInt 0] := yRm.nw C Y i103 z103
  replace C := C.f x103
  replace x103 := x103.ak (w := w)
  replace R18 := R18.k x103
  replace O10 := O10.k x103
  replace O11 := O11.k x103
  replace O16 := O16.k x103
  have hx103 := x103.1
  replace Y := Y.tr x103 (fun _ _ e => e)
  replace hY := Y.1
  refine yy_fin.steps (n := 7) (s' := (232, [some (.ref 1), some (.ref w), some (.ref 0), some (.int (Int32.ofInt fr)), some (.int (Int32.ofInt (t : Int))), some (.int (Int32.ofInt day)), some (.int (Int32.ofInt m)), some (.int (Int32.ofInt hr)), some (.int (Int32.ofInt nx)), some (.int (Int32.ofInt (wk + (s_h nx l - s_h hr l)))), some (.ref b10), some (.ref b11), some (.int (Int32.ofInt gs)), some (.int (Int32.ofInt gt)), some (.int (Int32.ofInt go)), some (.int (Int32.ofInt st)), some (.ref b16), some (.int (Int32.ofInt (d : Int))), some (.ref q18), x19, x20, x21, x22, none, none, none, none, none], [.int ((Int32.ofInt hr) + (Int32.ofInt 1)), .ref q18, .ref w, .int (Int32.ofInt 0), .ref (h.1.1 + 1), .ref (h.1.1 + 1)], h103)) rfl ?_
  rw [yi_add hr 1]
  obtain ⟨fw108, oW108⟩ := C.ow
  refine yy_fin.cv (as := [.ref q18, .int (Int32.ofInt (hr + 1))]) rfl rfl rfl oW108 (Nat.le_of_ble_eq_true rfl) (Nat.le_of_ble_eq_true rfl) (yc_hour2 F C R18 hb18 (x := hr + 1) (by omega)) ?_
  rintro v h9 ⟨rfl, e9⟩
  obtain rfl := e9.symm
  refine yy_fin.steps (n := 3) (s' := (240, [some (.ref 1), some (.ref w), some (.ref 0), some (.int (Int32.ofInt fr)), some (.int (Int32.ofInt (t : Int))), some (.int (Int32.ofInt day)), some (.int (Int32.ofInt m)), some (.int (Int32.ofInt hr)), some (.int (Int32.ofInt nx)), some (.int (Int32.ofInt (wk + (s_h nx l - s_h hr l)))), some (.ref b10), some (.ref b11), some (.int (Int32.ofInt gs)), some (.int (Int32.ofInt gt)), some (.int (Int32.ofInt go)), some (.int (Int32.ofInt st)), some (.ref b16), some (.int (Int32.ofInt (d : Int))), some (.ref q18), x19, x20, x21, x22, none, none, none, none, none], [.int (Int32.ofInt hr), .ref q18, .ref w, .int (Int32.ofInt (u + s_h (hr + 1) l)), .int (Int32.ofInt 0), .ref (h.1.1 + 1), .ref (h.1.1 + 1)], h103)) rfl ?_
  obtain ⟨fw109, oW109⟩ := C.ow
  refine yy_fin.cv (as := [.ref q18, .int (Int32.ofInt hr)]) rfl rfl rfl oW109 (Nat.le_of_ble_eq_true rfl) (Nat.le_of_ble_eq_true rfl) (yc_hour2 F C R18 hb18 (x := hr) (by omega)) ?_
  rintro v h9 ⟨rfl, e9⟩
  obtain rfl := e9.symm
  refine yy_fin.steps (n := 1) (s' := (244, [some (.ref 1), some (.ref w), some (.ref 0), some (.int (Int32.ofInt fr)), some (.int (Int32.ofInt (t : Int))), some (.int (Int32.ofInt day)), some (.int (Int32.ofInt m)), some (.int (Int32.ofInt hr)), some (.int (Int32.ofInt nx)), some (.int (Int32.ofInt (wk + (s_h nx l - s_h hr l)))), some (.ref b10), some (.ref b11), some (.int (Int32.ofInt gs)), some (.int (Int32.ofInt gt)), some (.int (Int32.ofInt go)), some (.int (Int32.ofInt st)), some (.ref b16), some (.int (Int32.ofInt (d : Int))), some (.ref q18), x19, x20, x21, x22, none, none, none, none, none], [.int ((Int32.ofInt (u + s_h (hr + 1) l)) - (Int32.ofInt (u + s_h hr l))), .int (Int32.ofInt 0), .ref (h.1.1 + 1), .ref (h.1.1 + 1)], h103)) rfl ?_
  rw [yi_sub (u + s_h (hr + 1) l) (u + s_h hr l)]
  rw [show (u + s_h (hr + 1) l) - (u + s_h hr l) = bs_v hr 0 u l by unfold bs_v; rw [if_pos rfl]; omega]
  refine yy_fin.sp rfl O19.2 rfl (by decide) (show 0 < 3 by omega) fun h110 x110 q110 => ?_
  have hx110 := x110.1
  replace C := C.m M O19 x110
  replace Y := Y.m O19 x110
  replace hY := Y.1
  replace O10 := O10.o (by omega) x110
  replace O11 := O11.o (by omega) x110
  replace O16 := O16.o (by omega) x110
  replace R18 := R18.o (by omega) x110
  replace O19 : yRm h0 h110 w (h.1.1 + 1) [(Int32.ofInt (bs_v hr 0 u l)), (Int32.ofInt 0), (Int32.ofInt 0)] := O19.s q110
  refine yy_fin.steps (n := 5) (s' := (252, [some (.ref 1), some (.ref w), some (.ref 0), some (.int (Int32.ofInt fr)), some (.int (Int32.ofInt (t : Int))), some (.int (Int32.ofInt day)), some (.int (Int32.ofInt m)), some (.int (Int32.ofInt hr)), some (.int (Int32.ofInt nx)), some (.int (Int32.ofInt (wk + (s_h nx l - s_h hr l)))), some (.ref b10), some (.ref b11), some (.int (Int32.ofInt gs)), some (.int (Int32.ofInt gt)), some (.int (Int32.ofInt go)), some (.int (Int32.ofInt st)), some (.ref b16), some (.int (Int32.ofInt (d : Int))), some (.ref q18), x19, x20, x21, x22, none, none, none, none, none], [.int (Int32.ofInt hr), .ref q18, .ref w, .int (Int32.ofInt 1), .ref (h.1.1 + 1), .ref (h.1.1 + 1)], h110)) rfl ?_
  obtain ⟨fw111, oW111⟩ := C.ow
  refine yy_fin.cv (as := [.ref q18, .int (Int32.ofInt hr)]) rfl rfl rfl oW111 (Nat.le_of_ble_eq_true rfl) (Nat.le_of_ble_eq_true rfl) (yc_hour2 F C R18 hb18 (x := hr) (by omega)) ?_
  rintro v h9 ⟨rfl, e9⟩
  obtain rfl := e9.symm
  refine yy_fin.steps (n := 1) (s' := (256, [some (.ref 1), some (.ref w), some (.ref 0), some (.int (Int32.ofInt fr)), some (.int (Int32.ofInt (t : Int))), some (.int (Int32.ofInt day)), some (.int (Int32.ofInt m)), some (.int (Int32.ofInt hr)), some (.int (Int32.ofInt nx)), some (.int (Int32.ofInt (wk + (s_h nx l - s_h hr l)))), some (.ref b10), some (.ref b11), some (.int (Int32.ofInt gs)), some (.int (Int32.ofInt gt)), some (.int (Int32.ofInt go)), some (.int (Int32.ofInt st)), some (.ref b16), some (.int (Int32.ofInt (d : Int))), some (.ref q18), x19, x20, x21, x22, none, none, none, none, none], [.int (-(Int32.ofInt (u + s_h hr l))), .int (Int32.ofInt 1), .ref (h.1.1 + 1), .ref (h.1.1 + 1)], h110)) rfl ?_
  rw [yi_neg (u + s_h hr l)]
  rw [show -(u + s_h hr l) = bs_v hr 1 u l by unfold bs_v; rw [if_neg (by decide), if_pos rfl]]
  refine yy_fin.sp rfl O19.2 rfl (by decide) (show 1 < 3 by omega) fun h112 x112 q112 => ?_
  have hx112 := x112.1
  replace C := C.m M O19 x112
  replace Y := Y.m O19 x112
  replace hY := Y.1
  replace O10 := O10.o (by omega) x112
  replace O11 := O11.o (by omega) x112
  replace O16 := O16.o (by omega) x112
  replace R18 := R18.o (by omega) x112
  replace O19 : yRm h0 h112 w (h.1.1 + 1) [(Int32.ofInt (bs_v hr 0 u l)), (Int32.ofInt (bs_v hr 1 u l)), (Int32.ofInt 0)] := O19.s q112
  refine yy_fin.steps (n := 5) (s' := (264, [some (.ref 1), some (.ref w), some (.ref 0), some (.int (Int32.ofInt fr)), some (.int (Int32.ofInt (t : Int))), some (.int (Int32.ofInt day)), some (.int (Int32.ofInt m)), some (.int (Int32.ofInt hr)), some (.int (Int32.ofInt nx)), some (.int (Int32.ofInt (wk + (s_h nx l - s_h hr l)))), some (.ref b10), some (.ref b11), some (.int (Int32.ofInt gs)), some (.int (Int32.ofInt gt)), some (.int (Int32.ofInt go)), some (.int (Int32.ofInt st)), some (.ref b16), some (.int (Int32.ofInt (d : Int))), some (.ref q18), x19, x20, x21, x22, none, none, none, none, none], [.int (Int32.ofInt hr), .ref q18, .ref w, .int (Int32.ofInt 2), .ref (h.1.1 + 1), .ref (h.1.1 + 1)], h112)) rfl ?_
  obtain ⟨fw113, oW113⟩ := C.ow
  refine yy_fin.cv (as := [.ref q18, .int (Int32.ofInt hr)]) rfl rfl rfl oW113 (Nat.le_of_ble_eq_true rfl) (Nat.le_of_ble_eq_true rfl) (yc_hour2 F C R18 hb18 (x := hr) (by omega)) ?_
  rintro v h9 ⟨rfl, e9⟩
  obtain rfl := e9.symm
  rw [show u + s_h hr l = bs_v hr 2 u l by unfold bs_v; rw [if_neg (by decide), if_neg (by decide)]]
  refine yy_fin.sp rfl O19.2 rfl (by decide) (show 2 < 3 by omega) fun h114 x114 q114 => ?_
  have hx114 := x114.1
  replace C := C.m M O19 x114
  replace Y := Y.m O19 x114
  replace hY := Y.1
  replace O10 := O10.o (by omega) x114
  replace O11 := O11.o (by omega) x114
  replace O16 := O16.o (by omega) x114
  replace R18 := R18.o (by omega) x114
  replace O19 : yRm h0 h114 w (h.1.1 + 1) [(Int32.ofInt (bs_v hr 0 u l)), (Int32.ofInt (bs_v hr 1 u l)), (Int32.ofInt (bs_v hr 2 u l))] := O19.s q114
  refine yy_fin.steps (n := 5) (s' := (276, [some (.ref 1), some (.ref w), some (.ref 0), some (.int (Int32.ofInt fr)), some (.int (Int32.ofInt (t : Int))), some (.int (Int32.ofInt day)), some (.int (Int32.ofInt m)), some (.int (Int32.ofInt hr)), some (.int (Int32.ofInt nx)), some (.int (Int32.ofInt (wk + (s_h nx l - s_h hr l)))), some (.ref b10), some (.ref b11), some (.int (Int32.ofInt gs)), some (.int (Int32.ofInt gt)), some (.int (Int32.ofInt go)), some (.int (Int32.ofInt st)), some (.ref b16), some (.int (Int32.ofInt (d : Int))), some (.ref q18), some (.ref (h.1.1 + 1)), some (.int (Int32.ofInt 0)), x21, x22, none, none, none, none, none], [.int (Int32.ofInt 3), .int (Int32.ofInt 0)], h114)) rfl ?_
  refine yy_fin.ic rfl (fun cK => absurd cK (by decide)) (fun cK => ?_)
  suffices J115 : ∀ (h' : zz_H) (p115 u115 : Int), (p115, u115) = bs_f (g0 541) t hr 0 d (b0, v0) → yCx own w lst g0 h' g → yx (yAk w) (a + 300) (e + 1300) h0 h' → yRm h0 h' w b10 [(Int32.ofInt p115), (Int32.ofInt b1), (Int32.ofInt b2)] → yRm h0 h' w b11 [(Int32.ofInt u115), (Int32.ofInt v1), (Int32.ofInt v2)] → yRm h0 h' w b16 (y_9 Z) → yRm h0 h' w (h.1.1 + 1) [(Int32.ofInt (bs_v hr 0 u l)), (Int32.ofInt (bs_v hr 1 u l)), (Int32.ofInt (bs_v hr 2 u l))] → yRw h' w q18 [Int32.ofInt u, Int32.ofInt (u + l)] → h114.1.1 ≤ h'.1.1 ∧ h'.1.1 ≤ h114.1.1 → yy_fin X 298 (322, [some (.ref 1), some (.ref w), some (.ref 0), some (.int (Int32.ofInt fr)), some (.int (Int32.ofInt (t : Int))), some (.int (Int32.ofInt day)), some (.int (Int32.ofInt m)), some (.int (Int32.ofInt hr)), some (.int (Int32.ofInt nx)), some (.int (Int32.ofInt (wk + (s_h nx l - s_h hr l)))), some (.ref b10), some (.ref b11), some (.int (Int32.ofInt gs)), some (.int (Int32.ofInt gt)), some (.int (Int32.ofInt go)), some (.int (Int32.ofInt st)), some (.ref b16), some (.int (Int32.ofInt (d : Int))), some (.ref q18), some (.ref (h.1.1 + 1)), some (.int (Int32.ofInt 0)), x21, x22, none, none, none, none, none], [], h') φ by
    have hZ115 := hY
    refine yy_fin.steps (n := 2) (s' := (283, [some (.ref 1), some (.ref w), some (.ref 0), some (.int (Int32.ofInt fr)), some (.int (Int32.ofInt (t : Int))), some (.int (Int32.ofInt day)), some (.int (Int32.ofInt m)), some (.int (Int32.ofInt hr)), some (.int (Int32.ofInt nx)), some (.int (Int32.ofInt (wk + (s_h nx l - s_h hr l)))), some (.ref b10), some (.ref b11), some (.int (Int32.ofInt gs)), some (.int (Int32.ofInt gt)), some (.int (Int32.ofInt go)), some (.int (Int32.ofInt st)), some (.ref b16), some (.int (Int32.ofInt (d : Int))), some (.ref q18), some (.ref (h.1.1 + 1)), some (.int (Int32.ofInt 0)), x21, x22, none, none, none, none, none], [.int (Int32.ofInt 0), .ref b10], h114)) rfl ?_
    refine yy_fin.lp (j := 0) rfl O10.2 rfl (by decide) rfl ?_
    refine yy_fin.steps (n := 1) (s' := (286, [some (.ref 1), some (.ref w), some (.ref 0), some (.int (Int32.ofInt fr)), some (.int (Int32.ofInt (t : Int))), some (.int (Int32.ofInt day)), some (.int (Int32.ofInt m)), some (.int (Int32.ofInt hr)), some (.int (Int32.ofInt nx)), some (.int (Int32.ofInt (wk + (s_h nx l - s_h hr l)))), some (.ref b10), some (.ref b11), some (.int (Int32.ofInt gs)), some (.int (Int32.ofInt gt)), some (.int (Int32.ofInt go)), some (.int (Int32.ofInt st)), some (.ref b16), some (.int (Int32.ofInt (d : Int))), some (.ref q18), some (.ref (h.1.1 + 1)), some (.int (Int32.ofInt 0)), x21, x22, none, none, none, none, none], [.int (Int32.ofInt (-2)), .int (Int32.ofInt b0)], h114)) rfl ?_
    refine yy_fin.ic rfl (fun c116 => ?_) (fun c116 => ?_)
    · have c116 := (yi_c_eq (a := b0) (b := -2) (by omega) (by omega)).mp c116
      refine yy_fin.steps (n := 3) (s' := (311, [some (.ref 1), some (.ref w), some (.ref 0), some (.int (Int32.ofInt fr)), some (.int (Int32.ofInt (t : Int))), some (.int (Int32.ofInt day)), some (.int (Int32.ofInt m)), some (.int (Int32.ofInt hr)), some (.int (Int32.ofInt nx)), some (.int (Int32.ofInt (wk + (s_h nx l - s_h hr l)))), some (.ref b10), some (.ref b11), some (.int (Int32.ofInt gs)), some (.int (Int32.ofInt gt)), some (.int (Int32.ofInt go)), some (.int (Int32.ofInt st)), some (.ref b16), some (.int (Int32.ofInt (d : Int))), some (.ref q18), some (.ref (h.1.1 + 1)), some (.int (Int32.ofInt 0)), x21, x22, none, none, none, none, none], [.int (Int32.ofInt (d : Int)), .int (Int32.ofInt 0), .ref b10], h114)) rfl ?_
      refine yy_fin.sp rfl O10.2 rfl (by decide) (show 0 < 3 by omega) fun h117 x117 q117 => ?_
      have hx117 := x117.1
      replace C := C.m M O10 x117
      replace Y := Y.m O10 x117
      replace hY := Y.1
      replace O11 := O11.o (by omega) x117
      replace O16 := O16.o (by omega) x117
      replace O19 := O19.o (by omega) x117
      replace R18 := R18.o (by omega) x117
      replace O10 : yRm h0 h117 w b10 [(Int32.ofInt (d : Int)), (Int32.ofInt b1), (Int32.ofInt b2)] := O10.s q117
      refine yy_fin.steps (n := 4) (s' := (320, [some (.ref 1), some (.ref w), some (.ref 0), some (.int (Int32.ofInt fr)), some (.int (Int32.ofInt (t : Int))), some (.int (Int32.ofInt day)), some (.int (Int32.ofInt m)), some (.int (Int32.ofInt hr)), some (.int (Int32.ofInt nx)), some (.int (Int32.ofInt (wk + (s_h nx l - s_h hr l)))), some (.ref b10), some (.ref b11), some (.int (Int32.ofInt gs)), some (.int (Int32.ofInt gt)), some (.int (Int32.ofInt go)), some (.int (Int32.ofInt st)), some (.ref b16), some (.int (Int32.ofInt (d : Int))), some (.ref q18), some (.ref (h.1.1 + 1)), some (.int (Int32.ofInt 0)), x21, x22, none, none, none, none, none], [.int (Int32.ofInt 0), .ref (h.1.1 + 1), .int (Int32.ofInt 0), .ref b11], h117)) rfl ?_
      refine yy_fin.lp (j := 0) rfl O19.2 rfl (by decide) rfl ?_
      refine yy_fin.sp rfl O11.2 rfl (by decide) (show 0 < 3 by omega) fun h118 x118 q118 => ?_
      have hx118 := x118.1
      replace C := C.m M O11 x118
      replace Y := Y.m O11 x118
      replace hY := Y.1
      replace O10 := O10.o (by omega) x118
      replace O16 := O16.o (by omega) x118
      replace O19 := O19.o (by omega) x118
      replace R18 := R18.o (by omega) x118
      replace O11 : yRm h0 h118 w b11 [(Int32.ofInt (bs_v hr 0 u l)), (Int32.ofInt v1), (Int32.ofInt v2)] := O11.s q118
      exact J115 _ (d : Int) (bs_v hr 0 u l) (by unfold bs_f; rw [eo]; dsimp only; rw [if_neg (by omega)]) C (Y.le (by omega) (by omega)) O10 O11 O16 O19 R18 (by omega)
    · have c116 := mt (yi_c_eq (a := b0) (b := -2) (by omega) (by omega)).mpr c116
      refine yy_fin.steps (n := 2) (s' := (293, [some (.ref 1), some (.ref w), some (.ref 0), some (.int (Int32.ofInt fr)), some (.int (Int32.ofInt (t : Int))), some (.int (Int32.ofInt day)), some (.int (Int32.ofInt m)), some (.int (Int32.ofInt hr)), some (.int (Int32.ofInt nx)), some (.int (Int32.ofInt (wk + (s_h nx l - s_h hr l)))), some (.ref b10), some (.ref b11), some (.int (Int32.ofInt gs)), some (.int (Int32.ofInt gt)), some (.int (Int32.ofInt go)), some (.int (Int32.ofInt st)), some (.ref b16), some (.int (Int32.ofInt (d : Int))), some (.ref q18), some (.ref (h.1.1 + 1)), some (.int (Int32.ofInt 0)), x21, x22, none, none, none, none, none], [.int (Int32.ofInt 0), .ref (h.1.1 + 1)], h114)) rfl ?_
      refine yy_fin.lp (j := 0) rfl O19.2 rfl (by decide) rfl ?_
      refine yy_fin.steps (n := 2) (s' := (298, [some (.ref 1), some (.ref w), some (.ref 0), some (.int (Int32.ofInt fr)), some (.int (Int32.ofInt (t : Int))), some (.int (Int32.ofInt day)), some (.int (Int32.ofInt m)), some (.int (Int32.ofInt hr)), some (.int (Int32.ofInt nx)), some (.int (Int32.ofInt (wk + (s_h nx l - s_h hr l)))), some (.ref b10), some (.ref b11), some (.int (Int32.ofInt gs)), some (.int (Int32.ofInt gt)), some (.int (Int32.ofInt go)), some (.int (Int32.ofInt st)), some (.ref b16), some (.int (Int32.ofInt (d : Int))), some (.ref q18), some (.ref (h.1.1 + 1)), some (.int (Int32.ofInt 0)), x21, x22, none, none, none, none, none], [.int (Int32.ofInt 0), .ref b11, .int (Int32.ofInt (bs_v hr 0 u l))], h114)) rfl ?_
      refine yy_fin.lp (j := 0) rfl O11.2 rfl (by decide) rfl ?_
      refine yy_fin.ic rfl (fun c119 => ?_) (fun c119 => ?_)
      · have c119 := (yi_c_gt (a := bs_v hr 0 u l) (b := v0) (by omega) (by omega)).mp c119
        refine yy_fin.steps (n := 3) (s' := (311, [some (.ref 1), some (.ref w), some (.ref 0), some (.int (Int32.ofInt fr)), some (.int (Int32.ofInt (t : Int))), some (.int (Int32.ofInt day)), some (.int (Int32.ofInt m)), some (.int (Int32.ofInt hr)), some (.int (Int32.ofInt nx)), some (.int (Int32.ofInt (wk + (s_h nx l - s_h hr l)))), some (.ref b10), some (.ref b11), some (.int (Int32.ofInt gs)), some (.int (Int32.ofInt gt)), some (.int (Int32.ofInt go)), some (.int (Int32.ofInt st)), some (.ref b16), some (.int (Int32.ofInt (d : Int))), some (.ref q18), some (.ref (h.1.1 + 1)), some (.int (Int32.ofInt 0)), x21, x22, none, none, none, none, none], [.int (Int32.ofInt (d : Int)), .int (Int32.ofInt 0), .ref b10], h114)) rfl ?_
        refine yy_fin.sp rfl O10.2 rfl (by decide) (show 0 < 3 by omega) fun h120 x120 q120 => ?_
        have hx120 := x120.1
        replace C := C.m M O10 x120
        replace Y := Y.m O10 x120
        replace hY := Y.1
        replace O11 := O11.o (by omega) x120
        replace O16 := O16.o (by omega) x120
        replace O19 := O19.o (by omega) x120
        replace R18 := R18.o (by omega) x120
        replace O10 : yRm h0 h120 w b10 [(Int32.ofInt (d : Int)), (Int32.ofInt b1), (Int32.ofInt b2)] := O10.s q120
        refine yy_fin.steps (n := 4) (s' := (320, [some (.ref 1), some (.ref w), some (.ref 0), some (.int (Int32.ofInt fr)), some (.int (Int32.ofInt (t : Int))), some (.int (Int32.ofInt day)), some (.int (Int32.ofInt m)), some (.int (Int32.ofInt hr)), some (.int (Int32.ofInt nx)), some (.int (Int32.ofInt (wk + (s_h nx l - s_h hr l)))), some (.ref b10), some (.ref b11), some (.int (Int32.ofInt gs)), some (.int (Int32.ofInt gt)), some (.int (Int32.ofInt go)), some (.int (Int32.ofInt st)), some (.ref b16), some (.int (Int32.ofInt (d : Int))), some (.ref q18), some (.ref (h.1.1 + 1)), some (.int (Int32.ofInt 0)), x21, x22, none, none, none, none, none], [.int (Int32.ofInt 0), .ref (h.1.1 + 1), .int (Int32.ofInt 0), .ref b11], h120)) rfl ?_
        refine yy_fin.lp (j := 0) rfl O19.2 rfl (by decide) rfl ?_
        refine yy_fin.sp rfl O11.2 rfl (by decide) (show 0 < 3 by omega) fun h121 x121 q121 => ?_
        have hx121 := x121.1
        replace C := C.m M O11 x121
        replace Y := Y.m O11 x121
        replace hY := Y.1
        replace O10 := O10.o (by omega) x121
        replace O16 := O16.o (by omega) x121
        replace O19 := O19.o (by omega) x121
        replace R18 := R18.o (by omega) x121
        replace O11 : yRm h0 h121 w b11 [(Int32.ofInt (bs_v hr 0 u l)), (Int32.ofInt v1), (Int32.ofInt v2)] := O11.s q121
        exact J115 _ (d : Int) (bs_v hr 0 u l) (by unfold bs_f; rw [eo]; dsimp only; rw [if_neg (by omega)]) C (Y.le (by omega) (by omega)) O10 O11 O16 O19 R18 (by omega)
      · have c119 := mt (yi_c_gt (a := bs_v hr 0 u l) (b := v0) (by omega) (by omega)).mpr c119
        refine yy_fin.steps (n := 1) (s' := (322, [some (.ref 1), some (.ref w), some (.ref 0), some (.int (Int32.ofInt fr)), some (.int (Int32.ofInt (t : Int))), some (.int (Int32.ofInt day)), some (.int (Int32.ofInt m)), some (.int (Int32.ofInt hr)), some (.int (Int32.ofInt nx)), some (.int (Int32.ofInt (wk + (s_h nx l - s_h hr l)))), some (.ref b10), some (.ref b11), some (.int (Int32.ofInt gs)), some (.int (Int32.ofInt gt)), some (.int (Int32.ofInt go)), some (.int (Int32.ofInt st)), some (.ref b16), some (.int (Int32.ofInt (d : Int))), some (.ref q18), some (.ref (h.1.1 + 1)), some (.int (Int32.ofInt 0)), x21, x22, none, none, none, none, none], [], h114)) rfl ?_
        exact J115 _ b0 v0 (by unfold bs_f; rw [eo]; dsimp only; rw [if_pos (by omega)]) C (Y.le (by omega) (by omega)) O10 O11 O16 O19 R18 (by omega)
  intro h115 p115 u115 ep115 C Y O10 O11 O16 O19 R18 hh115
  replace hY := Y.1
  have hp115 := bs_f_b (i := 0) (hr := hr) (d := d) F.2.2.2 ht hhr (by omega) (show -2 ≤ b0 ∧ b0 ≤ 40000 by omega) (show -200000 ≤ v0 ∧ v0 ≤ 200000 by omega)
  rw [← ep115] at hp115
  dsimp only at hp115
  refine yy_fin.steps (n := 4) (s' := (276, [some (.ref 1), some (.ref w), some (.ref 0), some (.int (Int32.ofInt fr)), some (.int (Int32.ofInt (t : Int))), some (.int (Int32.ofInt day)), some (.int (Int32.ofInt m)), some (.int (Int32.ofInt hr)), some (.int (Int32.ofInt nx)), some (.int (Int32.ofInt (wk + (s_h nx l - s_h hr l)))), some (.ref b10), some (.ref b11), some (.int (Int32.ofInt gs)), some (.int (Int32.ofInt gt)), some (.int (Int32.ofInt go)), some (.int (Int32.ofInt st)), some (.ref b16), some (.int (Int32.ofInt (d : Int))), some (.ref q18), some (.ref (h.1.1 + 1)), some (.int ((Int32.ofInt 0) + (Int32.ofInt 1))), x21, x22, none, none, none, none, none], [.int (Int32.ofInt 3), .int ((Int32.ofInt 0) + (Int32.ofInt 1))], h115)) rfl ?_
  rw [show (Int32.ofInt 0) + (Int32.ofInt 1) = Int32.ofInt 1 from by decide]
  refine yy_fin.ic rfl (fun cK => absurd cK (by decide)) (fun cK => ?_)
  suffices J122 : ∀ (h' : zz_H) (p122 u122 : Int), (p122, u122) = bs_f (g0 541) t hr 1 d (b1, v1) → yCx own w lst g0 h' g → yx (yAk w) (a + 300) (e + 1300) h0 h' → yRm h0 h' w b10 [(Int32.ofInt p115), (Int32.ofInt p122), (Int32.ofInt b2)] → yRm h0 h' w b11 [(Int32.ofInt u115), (Int32.ofInt u122), (Int32.ofInt v2)] → yRm h0 h' w b16 (y_9 Z) → yRm h0 h' w (h.1.1 + 1) [(Int32.ofInt (bs_v hr 0 u l)), (Int32.ofInt (bs_v hr 1 u l)), (Int32.ofInt (bs_v hr 2 u l))] → yRw h' w q18 [Int32.ofInt u, Int32.ofInt (u + l)] → h115.1.1 ≤ h'.1.1 ∧ h'.1.1 ≤ h115.1.1 → yy_fin X 298 (322, [some (.ref 1), some (.ref w), some (.ref 0), some (.int (Int32.ofInt fr)), some (.int (Int32.ofInt (t : Int))), some (.int (Int32.ofInt day)), some (.int (Int32.ofInt m)), some (.int (Int32.ofInt hr)), some (.int (Int32.ofInt nx)), some (.int (Int32.ofInt (wk + (s_h nx l - s_h hr l)))), some (.ref b10), some (.ref b11), some (.int (Int32.ofInt gs)), some (.int (Int32.ofInt gt)), some (.int (Int32.ofInt go)), some (.int (Int32.ofInt st)), some (.ref b16), some (.int (Int32.ofInt (d : Int))), some (.ref q18), some (.ref (h.1.1 + 1)), some (.int (Int32.ofInt 1)), x21, x22, none, none, none, none, none], [], h') φ by
    have hZ122 := hY
    refine yy_fin.steps (n := 2) (s' := (283, [some (.ref 1), some (.ref w), some (.ref 0), some (.int (Int32.ofInt fr)), some (.int (Int32.ofInt (t : Int))), some (.int (Int32.ofInt day)), some (.int (Int32.ofInt m)), some (.int (Int32.ofInt hr)), some (.int (Int32.ofInt nx)), some (.int (Int32.ofInt (wk + (s_h nx l - s_h hr l)))), some (.ref b10), some (.ref b11), some (.int (Int32.ofInt gs)), some (.int (Int32.ofInt gt)), some (.int (Int32.ofInt go)), some (.int (Int32.ofInt st)), some (.ref b16), some (.int (Int32.ofInt (d : Int))), some (.ref q18), some (.ref (h.1.1 + 1)), some (.int (Int32.ofInt 1)), x21, x22, none, none, none, none, none], [.int (Int32.ofInt 1), .ref b10], h115)) rfl ?_
    refine yy_fin.lp (j := 1) rfl O10.2 rfl (by decide) rfl ?_
    refine yy_fin.steps (n := 1) (s' := (286, [some (.ref 1), some (.ref w), some (.ref 0), some (.int (Int32.ofInt fr)), some (.int (Int32.ofInt (t : Int))), some (.int (Int32.ofInt day)), some (.int (Int32.ofInt m)), some (.int (Int32.ofInt hr)), some (.int (Int32.ofInt nx)), some (.int (Int32.ofInt (wk + (s_h nx l - s_h hr l)))), some (.ref b10), some (.ref b11), some (.int (Int32.ofInt gs)), some (.int (Int32.ofInt gt)), some (.int (Int32.ofInt go)), some (.int (Int32.ofInt st)), some (.ref b16), some (.int (Int32.ofInt (d : Int))), some (.ref q18), some (.ref (h.1.1 + 1)), some (.int (Int32.ofInt 1)), x21, x22, none, none, none, none, none], [.int (Int32.ofInt (-2)), .int (Int32.ofInt b1)], h115)) rfl ?_
    refine yy_fin.ic rfl (fun c123 => ?_) (fun c123 => ?_)
    · have c123 := (yi_c_eq (a := b1) (b := -2) (by omega) (by omega)).mp c123
      refine yy_fin.steps (n := 3) (s' := (311, [some (.ref 1), some (.ref w), some (.ref 0), some (.int (Int32.ofInt fr)), some (.int (Int32.ofInt (t : Int))), some (.int (Int32.ofInt day)), some (.int (Int32.ofInt m)), some (.int (Int32.ofInt hr)), some (.int (Int32.ofInt nx)), some (.int (Int32.ofInt (wk + (s_h nx l - s_h hr l)))), some (.ref b10), some (.ref b11), some (.int (Int32.ofInt gs)), some (.int (Int32.ofInt gt)), some (.int (Int32.ofInt go)), some (.int (Int32.ofInt st)), some (.ref b16), some (.int (Int32.ofInt (d : Int))), some (.ref q18), some (.ref (h.1.1 + 1)), some (.int (Int32.ofInt 1)), x21, x22, none, none, none, none, none], [.int (Int32.ofInt (d : Int)), .int (Int32.ofInt 1), .ref b10], h115)) rfl ?_
      refine yy_fin.sp rfl O10.2 rfl (by decide) (show 1 < 3 by omega) fun h124 x124 q124 => ?_
      have hx124 := x124.1
      replace C := C.m M O10 x124
      replace Y := Y.m O10 x124
      replace hY := Y.1
      replace O11 := O11.o (by omega) x124
      replace O16 := O16.o (by omega) x124
      replace O19 := O19.o (by omega) x124
      replace R18 := R18.o (by omega) x124
      replace O10 : yRm h0 h124 w b10 [(Int32.ofInt p115), (Int32.ofInt (d : Int)), (Int32.ofInt b2)] := O10.s q124
      refine yy_fin.steps (n := 4) (s' := (320, [some (.ref 1), some (.ref w), some (.ref 0), some (.int (Int32.ofInt fr)), some (.int (Int32.ofInt (t : Int))), some (.int (Int32.ofInt day)), some (.int (Int32.ofInt m)), some (.int (Int32.ofInt hr)), some (.int (Int32.ofInt nx)), some (.int (Int32.ofInt (wk + (s_h nx l - s_h hr l)))), some (.ref b10), some (.ref b11), some (.int (Int32.ofInt gs)), some (.int (Int32.ofInt gt)), some (.int (Int32.ofInt go)), some (.int (Int32.ofInt st)), some (.ref b16), some (.int (Int32.ofInt (d : Int))), some (.ref q18), some (.ref (h.1.1 + 1)), some (.int (Int32.ofInt 1)), x21, x22, none, none, none, none, none], [.int (Int32.ofInt 1), .ref (h.1.1 + 1), .int (Int32.ofInt 1), .ref b11], h124)) rfl ?_
      refine yy_fin.lp (j := 1) rfl O19.2 rfl (by decide) rfl ?_
      refine yy_fin.sp rfl O11.2 rfl (by decide) (show 1 < 3 by omega) fun h125 x125 q125 => ?_
      have hx125 := x125.1
      replace C := C.m M O11 x125
      replace Y := Y.m O11 x125
      replace hY := Y.1
      replace O10 := O10.o (by omega) x125
      replace O16 := O16.o (by omega) x125
      replace O19 := O19.o (by omega) x125
      replace R18 := R18.o (by omega) x125
      replace O11 : yRm h0 h125 w b11 [(Int32.ofInt u115), (Int32.ofInt (bs_v hr 1 u l)), (Int32.ofInt v2)] := O11.s q125
      exact J122 _ (d : Int) (bs_v hr 1 u l) (by unfold bs_f; rw [eo]; dsimp only; rw [if_neg (by omega)]) C (Y.le (by omega) (by omega)) O10 O11 O16 O19 R18 (by omega)
    · have c123 := mt (yi_c_eq (a := b1) (b := -2) (by omega) (by omega)).mpr c123
      refine yy_fin.steps (n := 2) (s' := (293, [some (.ref 1), some (.ref w), some (.ref 0), some (.int (Int32.ofInt fr)), some (.int (Int32.ofInt (t : Int))), some (.int (Int32.ofInt day)), some (.int (Int32.ofInt m)), some (.int (Int32.ofInt hr)), some (.int (Int32.ofInt nx)), some (.int (Int32.ofInt (wk + (s_h nx l - s_h hr l)))), some (.ref b10), some (.ref b11), some (.int (Int32.ofInt gs)), some (.int (Int32.ofInt gt)), some (.int (Int32.ofInt go)), some (.int (Int32.ofInt st)), some (.ref b16), some (.int (Int32.ofInt (d : Int))), some (.ref q18), some (.ref (h.1.1 + 1)), some (.int (Int32.ofInt 1)), x21, x22, none, none, none, none, none], [.int (Int32.ofInt 1), .ref (h.1.1 + 1)], h115)) rfl ?_
      refine yy_fin.lp (j := 1) rfl O19.2 rfl (by decide) rfl ?_
      refine yy_fin.steps (n := 2) (s' := (298, [some (.ref 1), some (.ref w), some (.ref 0), some (.int (Int32.ofInt fr)), some (.int (Int32.ofInt (t : Int))), some (.int (Int32.ofInt day)), some (.int (Int32.ofInt m)), some (.int (Int32.ofInt hr)), some (.int (Int32.ofInt nx)), some (.int (Int32.ofInt (wk + (s_h nx l - s_h hr l)))), some (.ref b10), some (.ref b11), some (.int (Int32.ofInt gs)), some (.int (Int32.ofInt gt)), some (.int (Int32.ofInt go)), some (.int (Int32.ofInt st)), some (.ref b16), some (.int (Int32.ofInt (d : Int))), some (.ref q18), some (.ref (h.1.1 + 1)), some (.int (Int32.ofInt 1)), x21, x22, none, none, none, none, none], [.int (Int32.ofInt 1), .ref b11, .int (Int32.ofInt (bs_v hr 1 u l))], h115)) rfl ?_
      refine yy_fin.lp (j := 1) rfl O11.2 rfl (by decide) rfl ?_
      refine yy_fin.ic rfl (fun c126 => ?_) (fun c126 => ?_)
      · have c126 := (yi_c_gt (a := bs_v hr 1 u l) (b := v1) (by omega) (by omega)).mp c126
        refine yy_fin.steps (n := 3) (s' := (311, [some (.ref 1), some (.ref w), some (.ref 0), some (.int (Int32.ofInt fr)), some (.int (Int32.ofInt (t : Int))), some (.int (Int32.ofInt day)), some (.int (Int32.ofInt m)), some (.int (Int32.ofInt hr)), some (.int (Int32.ofInt nx)), some (.int (Int32.ofInt (wk + (s_h nx l - s_h hr l)))), some (.ref b10), some (.ref b11), some (.int (Int32.ofInt gs)), some (.int (Int32.ofInt gt)), some (.int (Int32.ofInt go)), some (.int (Int32.ofInt st)), some (.ref b16), some (.int (Int32.ofInt (d : Int))), some (.ref q18), some (.ref (h.1.1 + 1)), some (.int (Int32.ofInt 1)), x21, x22, none, none, none, none, none], [.int (Int32.ofInt (d : Int)), .int (Int32.ofInt 1), .ref b10], h115)) rfl ?_
        refine yy_fin.sp rfl O10.2 rfl (by decide) (show 1 < 3 by omega) fun h127 x127 q127 => ?_
        have hx127 := x127.1
        replace C := C.m M O10 x127
        replace Y := Y.m O10 x127
        replace hY := Y.1
        replace O11 := O11.o (by omega) x127
        replace O16 := O16.o (by omega) x127
        replace O19 := O19.o (by omega) x127
        replace R18 := R18.o (by omega) x127
        replace O10 : yRm h0 h127 w b10 [(Int32.ofInt p115), (Int32.ofInt (d : Int)), (Int32.ofInt b2)] := O10.s q127
        refine yy_fin.steps (n := 4) (s' := (320, [some (.ref 1), some (.ref w), some (.ref 0), some (.int (Int32.ofInt fr)), some (.int (Int32.ofInt (t : Int))), some (.int (Int32.ofInt day)), some (.int (Int32.ofInt m)), some (.int (Int32.ofInt hr)), some (.int (Int32.ofInt nx)), some (.int (Int32.ofInt (wk + (s_h nx l - s_h hr l)))), some (.ref b10), some (.ref b11), some (.int (Int32.ofInt gs)), some (.int (Int32.ofInt gt)), some (.int (Int32.ofInt go)), some (.int (Int32.ofInt st)), some (.ref b16), some (.int (Int32.ofInt (d : Int))), some (.ref q18), some (.ref (h.1.1 + 1)), some (.int (Int32.ofInt 1)), x21, x22, none, none, none, none, none], [.int (Int32.ofInt 1), .ref (h.1.1 + 1), .int (Int32.ofInt 1), .ref b11], h127)) rfl ?_
        refine yy_fin.lp (j := 1) rfl O19.2 rfl (by decide) rfl ?_
        refine yy_fin.sp rfl O11.2 rfl (by decide) (show 1 < 3 by omega) fun h128 x128 q128 => ?_
        have hx128 := x128.1
        replace C := C.m M O11 x128
        replace Y := Y.m O11 x128
        replace hY := Y.1
        replace O10 := O10.o (by omega) x128
        replace O16 := O16.o (by omega) x128
        replace O19 := O19.o (by omega) x128
        replace R18 := R18.o (by omega) x128
        replace O11 : yRm h0 h128 w b11 [(Int32.ofInt u115), (Int32.ofInt (bs_v hr 1 u l)), (Int32.ofInt v2)] := O11.s q128
        exact J122 _ (d : Int) (bs_v hr 1 u l) (by unfold bs_f; rw [eo]; dsimp only; rw [if_neg (by omega)]) C (Y.le (by omega) (by omega)) O10 O11 O16 O19 R18 (by omega)
      · have c126 := mt (yi_c_gt (a := bs_v hr 1 u l) (b := v1) (by omega) (by omega)).mpr c126
        refine yy_fin.steps (n := 1) (s' := (322, [some (.ref 1), some (.ref w), some (.ref 0), some (.int (Int32.ofInt fr)), some (.int (Int32.ofInt (t : Int))), some (.int (Int32.ofInt day)), some (.int (Int32.ofInt m)), some (.int (Int32.ofInt hr)), some (.int (Int32.ofInt nx)), some (.int (Int32.ofInt (wk + (s_h nx l - s_h hr l)))), some (.ref b10), some (.ref b11), some (.int (Int32.ofInt gs)), some (.int (Int32.ofInt gt)), some (.int (Int32.ofInt go)), some (.int (Int32.ofInt st)), some (.ref b16), some (.int (Int32.ofInt (d : Int))), some (.ref q18), some (.ref (h.1.1 + 1)), some (.int (Int32.ofInt 1)), x21, x22, none, none, none, none, none], [], h115)) rfl ?_
        exact J122 _ b1 v1 (by unfold bs_f; rw [eo]; dsimp only; rw [if_pos (by omega)]) C (Y.le (by omega) (by omega)) O10 O11 O16 O19 R18 (by omega)
  intro h122 p122 u122 ep122 C Y O10 O11 O16 O19 R18 hh122
  replace hY := Y.1
  have hp122 := bs_f_b (i := 1) (hr := hr) (d := d) F.2.2.2 ht hhr (by omega) (show -2 ≤ b1 ∧ b1 ≤ 40000 by omega) (show -200000 ≤ v1 ∧ v1 ≤ 200000 by omega)
  rw [← ep122] at hp122
  dsimp only at hp122
  refine yy_fin.steps (n := 4) (s' := (276, [some (.ref 1), some (.ref w), some (.ref 0), some (.int (Int32.ofInt fr)), some (.int (Int32.ofInt (t : Int))), some (.int (Int32.ofInt day)), some (.int (Int32.ofInt m)), some (.int (Int32.ofInt hr)), some (.int (Int32.ofInt nx)), some (.int (Int32.ofInt (wk + (s_h nx l - s_h hr l)))), some (.ref b10), some (.ref b11), some (.int (Int32.ofInt gs)), some (.int (Int32.ofInt gt)), some (.int (Int32.ofInt go)), some (.int (Int32.ofInt st)), some (.ref b16), some (.int (Int32.ofInt (d : Int))), some (.ref q18), some (.ref (h.1.1 + 1)), some (.int ((Int32.ofInt 1) + (Int32.ofInt 1))), x21, x22, none, none, none, none, none], [.int (Int32.ofInt 3), .int ((Int32.ofInt 1) + (Int32.ofInt 1))], h122)) rfl ?_
  rw [show (Int32.ofInt 1) + (Int32.ofInt 1) = Int32.ofInt 2 from by decide]
  refine yy_fin.ic rfl (fun cK => absurd cK (by decide)) (fun cK => ?_)
  suffices J129 : ∀ (h' : zz_H) (p129 u129 : Int), (p129, u129) = bs_f (g0 541) t hr 2 d (b2, v2) → yCx own w lst g0 h' g → yx (yAk w) (a + 300) (e + 1300) h0 h' → yRm h0 h' w b10 [(Int32.ofInt p115), (Int32.ofInt p122), (Int32.ofInt p129)] → yRm h0 h' w b11 [(Int32.ofInt u115), (Int32.ofInt u122), (Int32.ofInt u129)] → yRm h0 h' w b16 (y_9 Z) → yRm h0 h' w (h.1.1 + 1) [(Int32.ofInt (bs_v hr 0 u l)), (Int32.ofInt (bs_v hr 1 u l)), (Int32.ofInt (bs_v hr 2 u l))] → yRw h' w q18 [Int32.ofInt u, Int32.ofInt (u + l)] → h122.1.1 ≤ h'.1.1 ∧ h'.1.1 ≤ h122.1.1 → yy_fin X 298 (322, [some (.ref 1), some (.ref w), some (.ref 0), some (.int (Int32.ofInt fr)), some (.int (Int32.ofInt (t : Int))), some (.int (Int32.ofInt day)), some (.int (Int32.ofInt m)), some (.int (Int32.ofInt hr)), some (.int (Int32.ofInt nx)), some (.int (Int32.ofInt (wk + (s_h nx l - s_h hr l)))), some (.ref b10), some (.ref b11), some (.int (Int32.ofInt gs)), some (.int (Int32.ofInt gt)), some (.int (Int32.ofInt go)), some (.int (Int32.ofInt st)), some (.ref b16), some (.int (Int32.ofInt (d : Int))), some (.ref q18), some (.ref (h.1.1 + 1)), some (.int (Int32.ofInt 2)), x21, x22, none, none, none, none, none], [], h') φ by
    have hZ129 := hY
    refine yy_fin.steps (n := 2) (s' := (283, [some (.ref 1), some (.ref w), some (.ref 0), some (.int (Int32.ofInt fr)), some (.int (Int32.ofInt (t : Int))), some (.int (Int32.ofInt day)), some (.int (Int32.ofInt m)), some (.int (Int32.ofInt hr)), some (.int (Int32.ofInt nx)), some (.int (Int32.ofInt (wk + (s_h nx l - s_h hr l)))), some (.ref b10), some (.ref b11), some (.int (Int32.ofInt gs)), some (.int (Int32.ofInt gt)), some (.int (Int32.ofInt go)), some (.int (Int32.ofInt st)), some (.ref b16), some (.int (Int32.ofInt (d : Int))), some (.ref q18), some (.ref (h.1.1 + 1)), some (.int (Int32.ofInt 2)), x21, x22, none, none, none, none, none], [.int (Int32.ofInt 2), .ref b10], h122)) rfl ?_
    refine yy_fin.lp (j := 2) rfl O10.2 rfl (by decide) rfl ?_
    refine yy_fin.steps (n := 1) (s' := (286, [some (.ref 1), some (.ref w), some (.ref 0), some (.int (Int32.ofInt fr)), some (.int (Int32.ofInt (t : Int))), some (.int (Int32.ofInt day)), some (.int (Int32.ofInt m)), some (.int (Int32.ofInt hr)), some (.int (Int32.ofInt nx)), some (.int (Int32.ofInt (wk + (s_h nx l - s_h hr l)))), some (.ref b10), some (.ref b11), some (.int (Int32.ofInt gs)), some (.int (Int32.ofInt gt)), some (.int (Int32.ofInt go)), some (.int (Int32.ofInt st)), some (.ref b16), some (.int (Int32.ofInt (d : Int))), some (.ref q18), some (.ref (h.1.1 + 1)), some (.int (Int32.ofInt 2)), x21, x22, none, none, none, none, none], [.int (Int32.ofInt (-2)), .int (Int32.ofInt b2)], h122)) rfl ?_
    refine yy_fin.ic rfl (fun c130 => ?_) (fun c130 => ?_)
    · have c130 := (yi_c_eq (a := b2) (b := -2) (by omega) (by omega)).mp c130
      refine yy_fin.steps (n := 3) (s' := (311, [some (.ref 1), some (.ref w), some (.ref 0), some (.int (Int32.ofInt fr)), some (.int (Int32.ofInt (t : Int))), some (.int (Int32.ofInt day)), some (.int (Int32.ofInt m)), some (.int (Int32.ofInt hr)), some (.int (Int32.ofInt nx)), some (.int (Int32.ofInt (wk + (s_h nx l - s_h hr l)))), some (.ref b10), some (.ref b11), some (.int (Int32.ofInt gs)), some (.int (Int32.ofInt gt)), some (.int (Int32.ofInt go)), some (.int (Int32.ofInt st)), some (.ref b16), some (.int (Int32.ofInt (d : Int))), some (.ref q18), some (.ref (h.1.1 + 1)), some (.int (Int32.ofInt 2)), x21, x22, none, none, none, none, none], [.int (Int32.ofInt (d : Int)), .int (Int32.ofInt 2), .ref b10], h122)) rfl ?_
      refine yy_fin.sp rfl O10.2 rfl (by decide) (show 2 < 3 by omega) fun h131 x131 q131 => ?_
      have hx131 := x131.1
      replace C := C.m M O10 x131
      replace Y := Y.m O10 x131
      replace hY := Y.1
      replace O11 := O11.o (by omega) x131
      replace O16 := O16.o (by omega) x131
      replace O19 := O19.o (by omega) x131
      replace R18 := R18.o (by omega) x131
      replace O10 : yRm h0 h131 w b10 [(Int32.ofInt p115), (Int32.ofInt p122), (Int32.ofInt (d : Int))] := O10.s q131
      refine yy_fin.steps (n := 4) (s' := (320, [some (.ref 1), some (.ref w), some (.ref 0), some (.int (Int32.ofInt fr)), some (.int (Int32.ofInt (t : Int))), some (.int (Int32.ofInt day)), some (.int (Int32.ofInt m)), some (.int (Int32.ofInt hr)), some (.int (Int32.ofInt nx)), some (.int (Int32.ofInt (wk + (s_h nx l - s_h hr l)))), some (.ref b10), some (.ref b11), some (.int (Int32.ofInt gs)), some (.int (Int32.ofInt gt)), some (.int (Int32.ofInt go)), some (.int (Int32.ofInt st)), some (.ref b16), some (.int (Int32.ofInt (d : Int))), some (.ref q18), some (.ref (h.1.1 + 1)), some (.int (Int32.ofInt 2)), x21, x22, none, none, none, none, none], [.int (Int32.ofInt 2), .ref (h.1.1 + 1), .int (Int32.ofInt 2), .ref b11], h131)) rfl ?_
      refine yy_fin.lp (j := 2) rfl O19.2 rfl (by decide) rfl ?_
      refine yy_fin.sp rfl O11.2 rfl (by decide) (show 2 < 3 by omega) fun h132 x132 q132 => ?_
      have hx132 := x132.1
      replace C := C.m M O11 x132
      replace Y := Y.m O11 x132
      replace hY := Y.1
      replace O10 := O10.o (by omega) x132
      replace O16 := O16.o (by omega) x132
      replace O19 := O19.o (by omega) x132
      replace R18 := R18.o (by omega) x132
      replace O11 : yRm h0 h132 w b11 [(Int32.ofInt u115), (Int32.ofInt u122), (Int32.ofInt (bs_v hr 2 u l))] := O11.s q132
      exact J129 _ (d : Int) (bs_v hr 2 u l) (by unfold bs_f; rw [eo]; dsimp only; rw [if_neg (by omega)]) C (Y.le (by omega) (by omega)) O10 O11 O16 O19 R18 (by omega)
    · have c130 := mt (yi_c_eq (a := b2) (b := -2) (by omega) (by omega)).mpr c130
      refine yy_fin.steps (n := 2) (s' := (293, [some (.ref 1), some (.ref w), some (.ref 0), some (.int (Int32.ofInt fr)), some (.int (Int32.ofInt (t : Int))), some (.int (Int32.ofInt day)), some (.int (Int32.ofInt m)), some (.int (Int32.ofInt hr)), some (.int (Int32.ofInt nx)), some (.int (Int32.ofInt (wk + (s_h nx l - s_h hr l)))), some (.ref b10), some (.ref b11), some (.int (Int32.ofInt gs)), some (.int (Int32.ofInt gt)), some (.int (Int32.ofInt go)), some (.int (Int32.ofInt st)), some (.ref b16), some (.int (Int32.ofInt (d : Int))), some (.ref q18), some (.ref (h.1.1 + 1)), some (.int (Int32.ofInt 2)), x21, x22, none, none, none, none, none], [.int (Int32.ofInt 2), .ref (h.1.1 + 1)], h122)) rfl ?_
      refine yy_fin.lp (j := 2) rfl O19.2 rfl (by decide) rfl ?_
      refine yy_fin.steps (n := 2) (s' := (298, [some (.ref 1), some (.ref w), some (.ref 0), some (.int (Int32.ofInt fr)), some (.int (Int32.ofInt (t : Int))), some (.int (Int32.ofInt day)), some (.int (Int32.ofInt m)), some (.int (Int32.ofInt hr)), some (.int (Int32.ofInt nx)), some (.int (Int32.ofInt (wk + (s_h nx l - s_h hr l)))), some (.ref b10), some (.ref b11), some (.int (Int32.ofInt gs)), some (.int (Int32.ofInt gt)), some (.int (Int32.ofInt go)), some (.int (Int32.ofInt st)), some (.ref b16), some (.int (Int32.ofInt (d : Int))), some (.ref q18), some (.ref (h.1.1 + 1)), some (.int (Int32.ofInt 2)), x21, x22, none, none, none, none, none], [.int (Int32.ofInt 2), .ref b11, .int (Int32.ofInt (bs_v hr 2 u l))], h122)) rfl ?_
      refine yy_fin.lp (j := 2) rfl O11.2 rfl (by decide) rfl ?_
      refine yy_fin.ic rfl (fun c133 => ?_) (fun c133 => ?_)
      · have c133 := (yi_c_gt (a := bs_v hr 2 u l) (b := v2) (by omega) (by omega)).mp c133
        refine yy_fin.steps (n := 3) (s' := (311, [some (.ref 1), some (.ref w), some (.ref 0), some (.int (Int32.ofInt fr)), some (.int (Int32.ofInt (t : Int))), some (.int (Int32.ofInt day)), some (.int (Int32.ofInt m)), some (.int (Int32.ofInt hr)), some (.int (Int32.ofInt nx)), some (.int (Int32.ofInt (wk + (s_h nx l - s_h hr l)))), some (.ref b10), some (.ref b11), some (.int (Int32.ofInt gs)), some (.int (Int32.ofInt gt)), some (.int (Int32.ofInt go)), some (.int (Int32.ofInt st)), some (.ref b16), some (.int (Int32.ofInt (d : Int))), some (.ref q18), some (.ref (h.1.1 + 1)), some (.int (Int32.ofInt 2)), x21, x22, none, none, none, none, none], [.int (Int32.ofInt (d : Int)), .int (Int32.ofInt 2), .ref b10], h122)) rfl ?_
        refine yy_fin.sp rfl O10.2 rfl (by decide) (show 2 < 3 by omega) fun h134 x134 q134 => ?_
        have hx134 := x134.1
        replace C := C.m M O10 x134
        replace Y := Y.m O10 x134
        replace hY := Y.1
        replace O11 := O11.o (by omega) x134
        replace O16 := O16.o (by omega) x134
        replace O19 := O19.o (by omega) x134
        replace R18 := R18.o (by omega) x134
        replace O10 : yRm h0 h134 w b10 [(Int32.ofInt p115), (Int32.ofInt p122), (Int32.ofInt (d : Int))] := O10.s q134
        refine yy_fin.steps (n := 4) (s' := (320, [some (.ref 1), some (.ref w), some (.ref 0), some (.int (Int32.ofInt fr)), some (.int (Int32.ofInt (t : Int))), some (.int (Int32.ofInt day)), some (.int (Int32.ofInt m)), some (.int (Int32.ofInt hr)), some (.int (Int32.ofInt nx)), some (.int (Int32.ofInt (wk + (s_h nx l - s_h hr l)))), some (.ref b10), some (.ref b11), some (.int (Int32.ofInt gs)), some (.int (Int32.ofInt gt)), some (.int (Int32.ofInt go)), some (.int (Int32.ofInt st)), some (.ref b16), some (.int (Int32.ofInt (d : Int))), some (.ref q18), some (.ref (h.1.1 + 1)), some (.int (Int32.ofInt 2)), x21, x22, none, none, none, none, none], [.int (Int32.ofInt 2), .ref (h.1.1 + 1), .int (Int32.ofInt 2), .ref b11], h134)) rfl ?_
        refine yy_fin.lp (j := 2) rfl O19.2 rfl (by decide) rfl ?_
        refine yy_fin.sp rfl O11.2 rfl (by decide) (show 2 < 3 by omega) fun h135 x135 q135 => ?_
        have hx135 := x135.1
        replace C := C.m M O11 x135
        replace Y := Y.m O11 x135
        replace hY := Y.1
        replace O10 := O10.o (by omega) x135
        replace O16 := O16.o (by omega) x135
        replace O19 := O19.o (by omega) x135
        replace R18 := R18.o (by omega) x135
        replace O11 : yRm h0 h135 w b11 [(Int32.ofInt u115), (Int32.ofInt u122), (Int32.ofInt (bs_v hr 2 u l))] := O11.s q135
        exact J129 _ (d : Int) (bs_v hr 2 u l) (by unfold bs_f; rw [eo]; dsimp only; rw [if_neg (by omega)]) C (Y.le (by omega) (by omega)) O10 O11 O16 O19 R18 (by omega)
      · have c133 := mt (yi_c_gt (a := bs_v hr 2 u l) (b := v2) (by omega) (by omega)).mpr c133
        refine yy_fin.steps (n := 1) (s' := (322, [some (.ref 1), some (.ref w), some (.ref 0), some (.int (Int32.ofInt fr)), some (.int (Int32.ofInt (t : Int))), some (.int (Int32.ofInt day)), some (.int (Int32.ofInt m)), some (.int (Int32.ofInt hr)), some (.int (Int32.ofInt nx)), some (.int (Int32.ofInt (wk + (s_h nx l - s_h hr l)))), some (.ref b10), some (.ref b11), some (.int (Int32.ofInt gs)), some (.int (Int32.ofInt gt)), some (.int (Int32.ofInt go)), some (.int (Int32.ofInt st)), some (.ref b16), some (.int (Int32.ofInt (d : Int))), some (.ref q18), some (.ref (h.1.1 + 1)), some (.int (Int32.ofInt 2)), x21, x22, none, none, none, none, none], [], h122)) rfl ?_
        exact J129 _ b2 v2 (by unfold bs_f; rw [eo]; dsimp only; rw [if_pos (by omega)]) C (Y.le (by omega) (by omega)) O10 O11 O16 O19 R18 (by omega)
  intro h129 p129 u129 ep129 C Y O10 O11 O16 O19 R18 hh129
  replace hY := Y.1
  have hp129 := bs_f_b (i := 2) (hr := hr) (d := d) F.2.2.2 ht hhr (by omega) (show -2 ≤ b2 ∧ b2 ≤ 40000 by omega) (show -200000 ≤ v2 ∧ v2 ≤ 200000 by omega)
  rw [← ep129] at hp129
  dsimp only at hp129
  refine yy_fin.steps (n := 4) (s' := (276, [some (.ref 1), some (.ref w), some (.ref 0), some (.int (Int32.ofInt fr)), some (.int (Int32.ofInt (t : Int))), some (.int (Int32.ofInt day)), some (.int (Int32.ofInt m)), some (.int (Int32.ofInt hr)), some (.int (Int32.ofInt nx)), some (.int (Int32.ofInt (wk + (s_h nx l - s_h hr l)))), some (.ref b10), some (.ref b11), some (.int (Int32.ofInt gs)), some (.int (Int32.ofInt gt)), some (.int (Int32.ofInt go)), some (.int (Int32.ofInt st)), some (.ref b16), some (.int (Int32.ofInt (d : Int))), some (.ref q18), some (.ref (h.1.1 + 1)), some (.int ((Int32.ofInt 2) + (Int32.ofInt 1))), x21, x22, none, none, none, none, none], [.int (Int32.ofInt 3), .int ((Int32.ofInt 2) + (Int32.ofInt 1))], h129)) rfl ?_
  rw [show (Int32.ofInt 2) + (Int32.ofInt 1) = Int32.ofInt 3 from by decide]
  refine yy_fin.ic rfl (fun cK => ?_) (fun cK => absurd (by decide) cK)
  exact kk _ _ _ _ _ _ _ _ ep115 ep122 ep129 C (Y.le (by omega) (by omega)) O10 O11 O16
theorem yl_ld (F : yCf own w lst g0) (ht : (t : Int) < (g0 541 0).toInt) (hd : 0 ≤ day ∧ day ≤ 35999) (M : yMo own w h0.1.1) (hm : 1 ≤ m ∧ m ≤ 25) (hhr : 0 ≤ hr ∧ hr ≤ 11) (hnx : hr + 1 ≤ nx ∧ nx ≤ 12) {b10 b11 b16 q18 a e d : Nat} {c19 : Nat} {l10 l11 : List Int32} {x20 x21 x22 : Option Value} {wk gs gt go st u l : Int} {Z : Nat → Int} (hdd : d ≤ 35999) (eo : hv_t (g0 541) t (d : Int) 0 = some (u, l)) (hgt : -1000000 ≤ gt ∧ gt ≤ 200000) (C : yCx own w lst g0 h g) (Y : yx (yAk w) (a + 300) (e + 1300) h0 h) (hB : h.1.1 + 20 < yy_B) (O10 : yRm h0 h w b10 l10) (O11 : yRm h0 h w b11 l11) (O16 : yRm h0 h w b16 (y_9 Z)) (kk : ∀ h' x20 ps pt po, (ps, pt, po) = gr_f (g0 541) t d (gs, gt, go) → yCx own w lst g0 h' g → yx (yAk w) (a + 312) (e + 1330) h0 h' → yRm h0 h' w b10 l10 → yRm h0 h' w b11 l11 → yRm h0 h' w b16 (y_9 Z) → yy_fin X 298 (390, [some (.ref 1), some (.ref w), some (.ref 0), some (.int (Int32.ofInt fr)), some (.int (Int32.ofInt (t : Int))), some (.int (Int32.ofInt day)), some (.int (Int32.ofInt m)), some (.int (Int32.ofInt hr)), some (.int (Int32.ofInt nx)), some (.int (Int32.ofInt wk)), some (.ref b10), some (.ref b11), some (.int (Int32.ofInt ps)), some (.int (Int32.ofInt pt)), some (.int (Int32.ofInt po)), some (.int (Int32.ofInt st)), some (.ref b16), some (.int (Int32.ofInt (d : Int))), some (.ref q18), some (.ref c19), x20, x21, x22, none, none, none, none, none], [], h') φ) : yy_fin X 298 (328, [some (.ref 1), some (.ref w), some (.ref 0), some (.int (Int32.ofInt fr)), some (.int (Int32.ofInt (t : Int))), some (.int (Int32.ofInt day)), some (.int (Int32.ofInt m)), some (.int (Int32.ofInt hr)), some (.int (Int32.ofInt nx)), some (.int (Int32.ofInt wk)), some (.ref b10), some (.ref b11), some (.int (Int32.ofInt gs)), some (.int (Int32.ofInt gt)), some (.int (Int32.ofInt go)), some (.int (Int32.ofInt st)), some (.ref b16), some (.int (Int32.ofInt (d : Int))), some (.ref q18), some (.ref c19), x20, x21, x22, none, none, none, none, none], [], h) φ := by
  have n4 := F.2.2.2.1
  have hq := F.2.2.2.2.1
  have hY := Y.1
  have hg := C.2.1.2
  have l8 := F.2.2.1.2.1
  have l1 := s_l_b (d := (d : Int)) F.2.2.2 ht
  have l2 := s_l_b (d := (d : Int) - 1) F.2.2.2 ht
  have el : s_l (g0 541) t (d : Int) = l := by unfold s_l; rw [eo]; rfl
  have hl := hv_bnd F.2.2.2 ht eo
  refine yy_fin.steps (n := 5) (s' := (335, [some (.ref 1), some (.ref w), some (.ref 0), some (.int (Int32.ofInt fr)), some (.int (Int32.ofInt (t : Int))), some (.int (Int32.ofInt day)), some (.int (Int32.ofInt m)), some (.int (Int32.ofInt hr)), some (.int (Int32.ofInt nx)), some (.int (Int32.ofInt wk)), some (.ref b10), some (.ref b11), some (.int (Int32.ofInt gs)), some (.int (Int32.ofInt gt)), some (.int (Int32.ofInt go)), some (.int (Int32.ofInt st)), some (.ref b16), some (.int (Int32.ofInt (d : Int))), some (.ref q18), some (.ref c19), x20, x21, x22, none, none, none, none, none], [.int ((Int32.ofInt (d : Int)) - (Int32.ofInt 1)), .int (Int32.ofInt (t : Int)), .ref w], h)) rfl ?_
  rw [yi_sub (d : Int) 1]
  obtain ⟨fw101, oW101⟩ := C.ow
  refine yy_fin.cv (as := [.int (Int32.ofInt (t : Int)), .int (Int32.ofInt ((d : Int) - 1))]) rfl rfl rfl oW101 (Nat.le_of_ble_eq_true rfl) (Nat.le_of_ble_eq_true rfl) (yc_light2 F C ht (d := (d : Int) - 1) (by omega) (by omega)) ?_
  rintro v h101 ⟨rfl, C, x101⟩
  replace O10 := O10.k x101
  replace O11 := O11.k x101
  replace O16 := O16.k x101
  have hx101 := x101.1
  replace Y := Y.tr x101 (fun _ _ e => e)
  replace hY := Y.1
  refine yy_fin.if rfl (fun c102 => ?_) (fun c102 => ?_)
  · have c102 := (yi_z_ge (a := s_l (g0 541) t ((d : Int) - 1)) (by omega)).mp c102
    refine yy_fin.steps (n := 3) (s' := (349, [some (.ref 1), some (.ref w), some (.ref 0), some (.int (Int32.ofInt fr)), some (.int (Int32.ofInt (t : Int))), some (.int (Int32.ofInt day)), some (.int (Int32.ofInt m)), some (.int (Int32.ofInt hr)), some (.int (Int32.ofInt nx)), some (.int (Int32.ofInt wk)), some (.ref b10), some (.ref b11), some (.int (Int32.ofInt gs)), some (.int (Int32.ofInt gt)), some (.int (Int32.ofInt go)), some (.int (Int32.ofInt st)), some (.ref b16), some (.int (Int32.ofInt (d : Int))), some (.ref q18), some (.ref c19), x20, x21, x22, none, none, none, none, none], [.int (Int32.ofInt (d : Int)), .int (Int32.ofInt (t : Int)), .ref w], h101)) rfl ?_
    obtain ⟨fw103, oW103⟩ := C.ow
    refine yy_fin.cv (as := [.int (Int32.ofInt (t : Int)), .int (Int32.ofInt (d : Int))]) rfl rfl rfl oW103 (Nat.le_of_ble_eq_true rfl) (Nat.le_of_ble_eq_true rfl) (yc_light2 F C ht (d := (d : Int)) (by omega) (by omega)) ?_
    rintro v h103 ⟨rfl, C, x103⟩
    replace O10 := O10.k x103
    replace O11 := O11.k x103
    replace O16 := O16.k x103
    have hx103 := x103.1
    replace Y := Y.tr x103 (fun _ _ e => e)
    replace hY := Y.1
    refine yy_fin.steps (n := 5) (s' := (359, [some (.ref 1), some (.ref w), some (.ref 0), some (.int (Int32.ofInt fr)), some (.int (Int32.ofInt (t : Int))), some (.int (Int32.ofInt day)), some (.int (Int32.ofInt m)), some (.int (Int32.ofInt hr)), some (.int (Int32.ofInt nx)), some (.int (Int32.ofInt wk)), some (.ref b10), some (.ref b11), some (.int (Int32.ofInt gs)), some (.int (Int32.ofInt gt)), some (.int (Int32.ofInt go)), some (.int (Int32.ofInt st)), some (.ref b16), some (.int (Int32.ofInt (d : Int))), some (.ref q18), some (.ref c19), x20, x21, x22, none, none, none, none, none], [.int ((Int32.ofInt (d : Int)) - (Int32.ofInt 1)), .int (Int32.ofInt (t : Int)), .ref w, .int (Int32.ofInt (s_l (g0 541) t (d : Int)))], h103)) rfl ?_
    rw [yi_sub (d : Int) 1]
    obtain ⟨fw104, oW104⟩ := C.ow
    refine yy_fin.cv (as := [.int (Int32.ofInt (t : Int)), .int (Int32.ofInt ((d : Int) - 1))]) rfl rfl rfl oW104 (Nat.le_of_ble_eq_true rfl) (Nat.le_of_ble_eq_true rfl) (yc_light2 F C ht (d := (d : Int) - 1) (by omega) (by omega)) ?_
    rintro v h104 ⟨rfl, C, x104⟩
    replace O10 := O10.k x104
    replace O11 := O11.k x104
    replace O16 := O16.k x104
    have hx104 := x104.1
    replace Y := Y.tr x104 (fun _ _ e => e)
    replace hY := Y.1
    refine yy_fin.steps (n := 8) (s' := (376, [some (.ref 1), some (.ref w), some (.ref 0), some (.int (Int32.ofInt fr)), some (.int (Int32.ofInt (t : Int))), some (.int (Int32.ofInt day)), some (.int (Int32.ofInt m)), some (.int (Int32.ofInt hr)), some (.int (Int32.ofInt nx)), some (.int (Int32.ofInt wk)), some (.ref b10), some (.ref b11), some (.int ((Int32.ofInt gs) + ((Int32.ofInt (s_l (g0 541) t (d : Int))) - (Int32.ofInt (s_l (g0 541) t ((d : Int) - 1)))))), some (.int (Int32.ofInt gt)), some (.int (Int32.ofInt go)), some (.int (Int32.ofInt st)), some (.ref b16), some (.int (Int32.ofInt (d : Int))), some (.ref q18), some (.ref c19), some (.int ((Int32.ofInt (s_l (g0 541) t (d : Int))) - (Int32.ofInt (s_l (g0 541) t ((d : Int) - 1))))), x21, x22, none, none, none, none, none], [.int (Int32.ofInt gt), .int ((Int32.ofInt (s_l (g0 541) t (d : Int))) - (Int32.ofInt (s_l (g0 541) t ((d : Int) - 1))))], h104)) rfl ?_
    rw [yi_sub (s_l (g0 541) t (d : Int)) (s_l (g0 541) t ((d : Int) - 1))]
    rw [yi_add gs ((s_l (g0 541) t (d : Int)) - (s_l (g0 541) t ((d : Int) - 1)))]
    refine yy_fin.ic rfl (fun c105 => ?_) (fun c105 => ?_)
    · have c105 := (yi_c_gt (a := (s_l (g0 541) t (d : Int)) - (s_l (g0 541) t ((d : Int) - 1))) (b := gt) (by omega) (by omega)).mp c105
      refine yy_fin.steps (n := 4) (s' := (390, [some (.ref 1), some (.ref w), some (.ref 0), some (.int (Int32.ofInt fr)), some (.int (Int32.ofInt (t : Int))), some (.int (Int32.ofInt day)), some (.int (Int32.ofInt m)), some (.int (Int32.ofInt hr)), some (.int (Int32.ofInt nx)), some (.int (Int32.ofInt wk)), some (.ref b10), some (.ref b11), some (.int (Int32.ofInt (gs + ((s_l (g0 541) t (d : Int)) - (s_l (g0 541) t ((d : Int) - 1)))))), some (.int (Int32.ofInt ((s_l (g0 541) t (d : Int)) - (s_l (g0 541) t ((d : Int) - 1))))), some (.int (Int32.ofInt (d : Int))), some (.int (Int32.ofInt st)), some (.ref b16), some (.int (Int32.ofInt (d : Int))), some (.ref q18), some (.ref c19), some (.int (Int32.ofInt ((s_l (g0 541) t (d : Int)) - (s_l (g0 541) t ((d : Int) - 1))))), x21, x22, none, none, none, none, none], [], h104)) rfl ?_
      exact kk _ _ (gs + ((s_l (g0 541) t (d : Int)) - (s_l (g0 541) t ((d : Int) - 1)))) ((s_l (g0 541) t (d : Int)) - (s_l (g0 541) t ((d : Int) - 1))) (d : Int) (by unfold gr_f; rw [if_neg (show ¬ (s_l (g0 541) t (d : Int) = -1 ∨ s_l (g0 541) t ((d : Int) - 1) = -1) by omega)]; dsimp only; rw [if_neg (by omega)]) C (Y.le (by omega) (by omega)) O10 O11 O16
    · have c105 := mt (yi_c_gt (a := (s_l (g0 541) t (d : Int)) - (s_l (g0 541) t ((d : Int) - 1))) (b := gt) (by omega) (by omega)).mpr c105
      refine yy_fin.steps (n := 1) (s' := (390, [some (.ref 1), some (.ref w), some (.ref 0), some (.int (Int32.ofInt fr)), some (.int (Int32.ofInt (t : Int))), some (.int (Int32.ofInt day)), some (.int (Int32.ofInt m)), some (.int (Int32.ofInt hr)), some (.int (Int32.ofInt nx)), some (.int (Int32.ofInt wk)), some (.ref b10), some (.ref b11), some (.int (Int32.ofInt (gs + ((s_l (g0 541) t (d : Int)) - (s_l (g0 541) t ((d : Int) - 1)))))), some (.int (Int32.ofInt gt)), some (.int (Int32.ofInt go)), some (.int (Int32.ofInt st)), some (.ref b16), some (.int (Int32.ofInt (d : Int))), some (.ref q18), some (.ref c19), some (.int (Int32.ofInt ((s_l (g0 541) t (d : Int)) - (s_l (g0 541) t ((d : Int) - 1))))), x21, x22, none, none, none, none, none], [], h104)) rfl ?_
      exact kk _ _ (gs + ((s_l (g0 541) t (d : Int)) - (s_l (g0 541) t ((d : Int) - 1)))) gt go (by unfold gr_f; rw [if_neg (show ¬ (s_l (g0 541) t (d : Int) = -1 ∨ s_l (g0 541) t ((d : Int) - 1) = -1) by omega)]; dsimp only; rw [if_pos (by omega)]) C (Y.le (by omega) (by omega)) O10 O11 O16
  · have c102 := mt (yi_z_ge (a := s_l (g0 541) t ((d : Int) - 1)) (by omega)).mpr c102
    refine yy_fin.steps (n := 1) (s' := (390, [some (.ref 1), some (.ref w), some (.ref 0), some (.int (Int32.ofInt fr)), some (.int (Int32.ofInt (t : Int))), some (.int (Int32.ofInt day)), some (.int (Int32.ofInt m)), some (.int (Int32.ofInt hr)), some (.int (Int32.ofInt nx)), some (.int (Int32.ofInt wk)), some (.ref b10), some (.ref b11), some (.int (Int32.ofInt gs)), some (.int (Int32.ofInt gt)), some (.int (Int32.ofInt go)), some (.int (Int32.ofInt st)), some (.ref b16), some (.int (Int32.ofInt (d : Int))), some (.ref q18), some (.ref c19), x20, x21, x22, none, none, none, none, none], [], h101)) rfl ?_
    exact kk _ _ gs gt go (by unfold gr_f; rw [if_pos (Or.inr (by omega))]) C (Y.le (by omega) (by omega)) O10 O11 O16
end YD13
