/-! THE LAW ASKS OF MANY DAYS (298): season (printed by wip/p54/w17.py) -/
/-- what a season's choice is worth; a step of it; days without light -/
noncomputable def y_vk (a : Nat → Int32) (t : Nat) (k s : Int) : Int := if s = -2 then 0 else y_se k (s_l a t s)
noncomputable def y_sgz (a : Nat → Int32) (t : Nat) (k : Int) (d : Nat) (s : Int) : Int := if s_l a t (d : Int) = -1 then s else if s = -2 ∨ y_vk a t k s < y_se k (s_l a t (d : Int)) then (d : Int) else s
noncomputable def y_nz (a : Nat → Int32) (t d : Nat) : Int := if s_l a t (d : Int) = -1 then 1 else 0
theorem y_sf_e {a : Nat → Int32} {t : Nat} {k x y z : Int} {d : Nat} (B : yWb a) (ht : (t : Int) < (a 0).toInt) : y_sf a t k d (x, y, z) = if s_l a t (d : Int) = -1 then (x, y, z + 1) else if x = -2 ∨ y < y_se k (s_l a t (d : Int)) then ((d : Int), y_se k (s_l a t (d : Int)), z) else (x, y, z) := by
  have lb := s_l_b (d := (d : Int)) B ht
  unfold y_sf
  cases e : hv_t a t (d : Int) 0 with
  | none =>
    have el : s_l a t (d : Int) = -1 := by unfold s_l; rw [e]; rfl
    rw [if_pos el]
  | some p =>
    obtain ⟨u, l⟩ := p
    have el : s_l a t (d : Int) = l := by unfold s_l; rw [e]; rfl
    have hl := hv_bnd B ht e
    rw [el, if_neg (by omega)]
theorem y_sf_g {a : Nat → Int32} {t : Nat} {k : Int} (B : yWb a) (ht : (t : Int) < (a 0).toInt) : ∀ (n d : Nat) (x z : Int), (fd_i (y_sf a t k) d n (x, y_vk a t k x, z)).1 = fd_i (y_sgz a t k) d n x
  | 0, d, x, z => rfl
  | n + 1, d, x, z => by
    show (fd_i (y_sf a t k) (d + 1) n (y_sf a t k d (x, y_vk a t k x, z))).1 = fd_i (y_sgz a t k) (d + 1) n (y_sgz a t k d x)
    rw [y_sf_e B ht]
    unfold y_sgz
    by_cases c : s_l a t (d : Int) = -1
    · rw [if_pos c, if_pos c]
      exact y_sf_g B ht n (d + 1) x (z + 1)
    · rw [if_neg c, if_neg c]
      by_cases c2 : x = -2 ∨ y_vk a t k x < y_se k (s_l a t (d : Int))
      · rw [if_pos c2, if_pos c2]
        have h9 := y_sf_g (k := k) B ht n (d + 1) (d : Int) z
        have ev : y_vk a t k (d : Int) = y_se k (s_l a t (d : Int)) := if_neg (by omega)
        rw [ev] at h9
        exact h9
      · rw [if_neg c2, if_neg c2]
        exact y_sf_g B ht n (d + 1) x z
theorem y_sf_z {a : Nat → Int32} {t : Nat} {k : Int} (B : yWb a) (ht : (t : Int) < (a 0).toInt) : ∀ (n d : Nat) (x y z : Int), (fd_i (y_sf a t k) d n (x, y, z)).2.2 = z + sm_i (y_nz a t) d n
  | 0, d, x, y, z => (Int.add_zero z).symm
  | n + 1, d, x, y, z => by
    show (fd_i (y_sf a t k) (d + 1) n (y_sf a t k d (x, y, z))).2.2 = z + (y_nz a t d + sm_i (y_nz a t) (d + 1) n)
    rw [y_sf_e B ht]
    unfold y_nz
    by_cases c : s_l a t (d : Int) = -1
    · rw [if_pos c, if_pos c, y_sf_z B ht n (d + 1)]
      unfold y_nz
      exact Int.add_assoc ..
    · rw [if_neg c, if_neg c]
      by_cases c2 : x = -2 ∨ y < y_se k (s_l a t (d : Int))
      · rw [if_pos c2, y_sf_z B ht n (d + 1), Int.zero_add]
        rfl
      · rw [if_neg c2, y_sf_z B ht n (d + 1), Int.zero_add]
        rfl
theorem yabs_b {x : Int} (h : -200000 ≤ x ∧ x ≤ 200000) : 0 ≤ yabs x ∧ yabs x ≤ 200000 := by
  unfold yabs
  split <;> omega
theorem s_23_g {a : Nat → Int32} {t : Nat} {k : Int} (B : yWb a) (ht : (t : Int) < (a 0).toInt) (hk : k ≠ 3) : s_23 a t k = fd_i (y_sgz a t k) 0 360 (-2) := by
  unfold s_23
  rw [if_pos hk]
  have h9 := y_sf_g (k := k) B ht 360 0 (-2) 0
  have ev : y_vk a t k (-2) = 0 := if_pos rfl
  rw [ev] at h9
  exact h9
theorem s_23_z {a : Nat → Int32} {t : Nat} (B : yWb a) (ht : (t : Int) < (a 0).toInt) : s_23 a t 3 = 0 + sm_i (y_nz a t) 0 360 := by
  unfold s_23
  rw [if_neg (fun z => z rfl)]
  exact y_sf_z B ht 360 0 (-2) 0 0
/-- a choice: none yet, or a day with light -/
def y_ch (a : Nat → Int32) (t : Nat) (s : Int) : Prop := s = -2 ∨ (0 ≤ s ∧ s ≤ 1000 ∧ s_l a t s ≠ -1)
theorem y_sg_ch {a : Nat → Int32} {t : Nat} {k s : Int} {d : Nat} (h : y_ch a t s) (hd : d ≤ 1000) : y_ch a t (y_sgz a t k d s) := by
  unfold y_sgz
  by_cases c : s_l a t (d : Int) = -1
  · rw [if_pos c]
    exact h
  · rw [if_neg c]
    split
    · exact Or.inr ⟨by omega, by omega, c⟩
    · exact h
section YD17
variable {X : yy_X} {own : yOwn} {w t L : Nat} {xs : Nat → Int32} {lst : List (yBell × List fl_T)} {g0 g : aa_G} {h h0 : zz_H} {day fr : Int} {φ : Option Value → zz_H → Prop}
theorem yl_sl (F : yCf own w lst g0) (ht : (t : Int) < (g0 541 0).toInt) (hd : 0 ≤ day ∧ day ≤ 35999) (M : yMo own w h0.1.1) {A E b23 : Nat} {T0 T1 T2 T3 i18 i22 : Int} {x6 x7 x8 x9 x10 x11 x12 x13 x14 x15 x16 x17 x19 x20 x21 : Option Value} (hR : h0.1.1 + A + 100 < yy_B) (kk : ∀ h' d' x25, yCx own w lst g0 h' g → yx (yAk w) A E h0 h' → yRm h0 h' w b23 [Int32.ofInt T0, Int32.ofInt T1, Int32.ofInt T2, Int32.ofInt T3] → yy_fin X 298 (981, [some (.ref 1), some (.ref w), some (.ref 0), some (.int (Int32.ofInt fr)), some (.int (Int32.ofInt (t : Int))), some (.int (Int32.ofInt day)), x6, x7, x8, x9, x10, x11, x12, x13, x14, x15, x16, x17, some (.int (Int32.ofInt i18)), x19, x20, x21, some (.int (Int32.ofInt i22)), some (.ref b23), some (.int (Int32.ofInt d')), x25, none, none], [], h') φ) : ∀ (n d : Nat) (h : zz_H) (s0 s1 s2 s3 : Int) (x25 : Option Value) (a e : Nat), d + n = 360 → fd_i (y_sgz (g0 541) t 0) d n s0 = T0 → fd_i (y_sgz (g0 541) t 1) d n s1 = T1 → fd_i (y_sgz (g0 541) t 2) d n s2 = T2 → s3 + sm_i (y_nz (g0 541) t) d n = T3 → y_ch (g0 541) t s0 → y_ch (g0 541) t s1 → y_ch (g0 541) t s2 → yCx own w lst g0 h g → yx (yAk w) a e h0 h → yRm h0 h w b23 [Int32.ofInt s0, Int32.ofInt s1, Int32.ofInt s2, Int32.ofInt s3] → a + 12 * n ≤ A → e + 24 * n ≤ E → yy_fin X 298 (836, [some (.ref 1), some (.ref w), some (.ref 0), some (.int (Int32.ofInt fr)), some (.int (Int32.ofInt (t : Int))), some (.int (Int32.ofInt day)), x6, x7, x8, x9, x10, x11, x12, x13, x14, x15, x16, x17, some (.int (Int32.ofInt i18)), x19, x20, x21, some (.int (Int32.ofInt i22)), some (.ref b23), some (.int (Int32.ofInt (d : Int))), x25, none, none], [], h) φ
  | 0, d, h, s0, s1, s2, s3, x25, a, e, hn, e0, e1, e2, e3, c0, c1, c2, C, Y, O23, hA, hE => by
    have n4 := F.2.2.2.1
    have hq := F.2.2.2.2.1
    have hY := Y.1
    have hg := C.2.1.2
    have l8 := F.2.2.1.2.1
    have ld := s_l_b (d := (d : Int)) F.2.2.2 ht
    have l0 := s_l_b (d := s0) F.2.2.2 ht
    have l1 := s_l_b (d := s1) F.2.2.2 ht
    have l2 := s_l_b (d := s2) F.2.2.2 ht
    have k0 : s0 = -2 ∨ (0 ≤ s0 ∧ s0 ≤ 1000 ∧ s_l (g0 541) t s0 ≠ -1) := c0
    have k1 : s1 = -2 ∨ (0 ≤ s1 ∧ s1 ≤ 1000 ∧ s_l (g0 541) t s1 ≠ -1) := c1
    have k2 : s2 = -2 ∨ (0 ≤ s2 ∧ s2 ≤ 1000 ∧ s_l (g0 541) t s2 ≠ -1) := c2
    have yd := yabs_b (x := s_l (g0 541) t (d : Int) - 43200) (by omega)
    have y2 := yabs_b (x := s_l (g0 541) t s2 - 43200) (by omega)
    have f0 : s0 = T0 := e0
    have f1 : s1 = T1 := e1
    have f2 : s2 = T2 := e2
    have f3 : s3 = T3 := (Int.add_zero s3).symm.trans e3
    refine yy_fin.steps (n := 2) (s' := (841, [some (.ref 1), some (.ref w), some (.ref 0), some (.int (Int32.ofInt fr)), some (.int (Int32.ofInt (t : Int))), some (.int (Int32.ofInt day)), x6, x7, x8, x9, x10, x11, x12, x13, x14, x15, x16, x17, some (.int (Int32.ofInt i18)), x19, x20, x21, some (.int (Int32.ofInt i22)), some (.ref b23), some (.int (Int32.ofInt (d : Int))), x25, none, none], [.int (Int32.ofInt 360), .int (Int32.ofInt (d : Int))], h)) rfl ?_
    refine yy_fin.ic rfl (fun cq => ?_) (fun cq => absurd ((yi_c_ge (a := (d : Int)) (b := 360) (by omega) (by omega)).mpr (by omega)) cq)
    have cq := (yi_c_ge (a := (d : Int)) (b := 360) (by omega) (by omega)).mp cq
    obtain rfl := f0
    obtain rfl := f1
    obtain rfl := f2
    obtain rfl := f3
    exact kk _ _ _ C (Y.le (by omega) (by omega)) O23
  | n + 1, d, h, s0, s1, s2, s3, x25, a, e, hn, e0, e1, e2, e3, c0, c1, c2, C, Y, O23, hA, hE => by
    have n4 := F.2.2.2.1
    have hq := F.2.2.2.2.1
    have hY := Y.1
    have hg := C.2.1.2
    have l8 := F.2.2.1.2.1
    have ld := s_l_b (d := (d : Int)) F.2.2.2 ht
    have l0 := s_l_b (d := s0) F.2.2.2 ht
    have l1 := s_l_b (d := s1) F.2.2.2 ht
    have l2 := s_l_b (d := s2) F.2.2.2 ht
    have k0 : s0 = -2 ∨ (0 ≤ s0 ∧ s0 ≤ 1000 ∧ s_l (g0 541) t s0 ≠ -1) := c0
    have k1 : s1 = -2 ∨ (0 ≤ s1 ∧ s1 ≤ 1000 ∧ s_l (g0 541) t s1 ≠ -1) := c1
    have k2 : s2 = -2 ∨ (0 ≤ s2 ∧ s2 ≤ 1000 ∧ s_l (g0 541) t s2 ≠ -1) := c2
    have yd := yabs_b (x := s_l (g0 541) t (d : Int) - 43200) (by omega)
    have y2 := yabs_b (x := s_l (g0 541) t s2 - 43200) (by omega)
    refine yy_fin.steps (n := 2) (s' := (841, [some (.ref 1), some (.ref w), some (.ref 0), some (.int (Int32.ofInt fr)), some (.int (Int32.ofInt (t : Int))), some (.int (Int32.ofInt day)), x6, x7, x8, x9, x10, x11, x12, x13, x14, x15, x16, x17, some (.int (Int32.ofInt i18)), x19, x20, x21, some (.int (Int32.ofInt i22)), some (.ref b23), some (.int (Int32.ofInt (d : Int))), x25, none, none], [.int (Int32.ofInt 360), .int (Int32.ofInt (d : Int))], h)) rfl ?_
    refine yy_fin.ic rfl (fun cq => absurd ((yi_c_ge (a := (d : Int)) (b := 360) (by omega) (by omega)).mp cq) (by omega)) (fun cq => ?_)
    have cq := mt (yi_c_ge (a := (d : Int)) (b := 360) (by omega) (by omega)).mpr cq
    refine yy_fin.steps (n := 3) (s' := (849, [some (.ref 1), some (.ref w), some (.ref 0), some (.int (Int32.ofInt fr)), some (.int (Int32.ofInt (t : Int))), some (.int (Int32.ofInt day)), x6, x7, x8, x9, x10, x11, x12, x13, x14, x15, x16, x17, some (.int (Int32.ofInt i18)), x19, x20, x21, some (.int (Int32.ofInt i22)), some (.ref b23), some (.int (Int32.ofInt (d : Int))), x25, none, none], [.int (Int32.ofInt (d : Int)), .int (Int32.ofInt (t : Int)), .ref w], h)) rfl ?_
    obtain ⟨fw101, oW101⟩ := C.ow
    refine yy_fin.cv (as := [.int (Int32.ofInt (t : Int)), .int (Int32.ofInt (d : Int))]) rfl rfl rfl oW101 (Nat.le_of_ble_eq_true rfl) (Nat.le_of_ble_eq_true rfl) (yc_light2 F C ht (d := (d : Int)) (by omega) (by omega)) ?_
    rintro v h101 ⟨rfl, C, x101⟩
    replace O23 := O23.k x101
    have hx101 := x101.1
    replace Y := Y.tr x101 (fun _ _ e => e)
    replace hY := Y.1
    refine yy_fin.steps (n := 4) (s' := (858, [some (.ref 1), some (.ref w), some (.ref 0), some (.int (Int32.ofInt fr)), some (.int (Int32.ofInt (t : Int))), some (.int (Int32.ofInt day)), x6, x7, x8, x9, x10, x11, x12, x13, x14, x15, x16, x17, some (.int (Int32.ofInt i18)), x19, x20, x21, some (.int (Int32.ofInt i22)), some (.ref b23), some (.int (Int32.ofInt (d : Int))), some (.int (Int32.ofInt (s_l (g0 541) t (d : Int)))), none, none], [.int (Int32.ofInt 3), .ref b23, .int (Int32.ofInt 3), .ref b23], h101)) rfl ?_
    refine yy_fin.lp (j := 3) rfl O23.2 rfl (by decide) rfl ?_
    refine yy_fin.steps (n := 1) (s' := (861, [some (.ref 1), some (.ref w), some (.ref 0), some (.int (Int32.ofInt fr)), some (.int (Int32.ofInt (t : Int))), some (.int (Int32.ofInt day)), x6, x7, x8, x9, x10, x11, x12, x13, x14, x15, x16, x17, some (.int (Int32.ofInt i18)), x19, x20, x21, some (.int (Int32.ofInt i22)), some (.ref b23), some (.int (Int32.ofInt (d : Int))), some (.int (Int32.ofInt (s_l (g0 541) t (d : Int)))), none, none], [.int (Int32.ofInt (s_l (g0 541) t (d : Int))), .int (Int32.ofInt s3), .int (Int32.ofInt 3), .ref b23], h101)) rfl ?_
    refine yy_fin.if rfl (fun c102 => ?_) (fun c102 => ?_)
    · have c102 := (yi_z_ge (a := s_l (g0 541) t (d : Int)) (by omega)).mp c102
      refine yy_fin.steps (n := 2) (s' := (870, [some (.ref 1), some (.ref w), some (.ref 0), some (.int (Int32.ofInt fr)), some (.int (Int32.ofInt (t : Int))), some (.int (Int32.ofInt day)), x6, x7, x8, x9, x10, x11, x12, x13, x14, x15, x16, x17, some (.int (Int32.ofInt i18)), x19, x20, x21, some (.int (Int32.ofInt i22)), some (.ref b23), some (.int (Int32.ofInt (d : Int))), some (.int (Int32.ofInt (s_l (g0 541) t (d : Int)))), none, none], [.int ((Int32.ofInt s3) + (Int32.ofInt 0)), .int (Int32.ofInt 3), .ref b23], h101)) rfl ?_
      rw [yi_add s3 0]
      have en : y_nz (g0 541) t d = 0 := by unfold y_nz; rw [if_neg (by omega)]
      rw [show s3 + 0 = s3 + y_nz (g0 541) t d by omega]
      refine yy_fin.sp rfl O23.2 rfl (by decide) (show 3 < 4 by omega) fun h103 x103 q103 => ?_
      have hx103 := x103.1
      replace C := C.m M O23 x103
      replace Y := Y.m O23 x103
      replace hY := Y.1
      replace O23 : yRm h0 h103 w b23 [(Int32.ofInt s0), (Int32.ofInt s1), (Int32.ofInt s2), (Int32.ofInt (s3 + y_nz (g0 541) t d))] := O23.s q103
      refine yy_fin.steps (n := 1) (s' := (873, [some (.ref 1), some (.ref w), some (.ref 0), some (.int (Int32.ofInt fr)), some (.int (Int32.ofInt (t : Int))), some (.int (Int32.ofInt day)), x6, x7, x8, x9, x10, x11, x12, x13, x14, x15, x16, x17, some (.int (Int32.ofInt i18)), x19, x20, x21, some (.int (Int32.ofInt i22)), some (.ref b23), some (.int (Int32.ofInt (d : Int))), some (.int (Int32.ofInt (s_l (g0 541) t (d : Int)))), none, none], [.int (Int32.ofInt (s_l (g0 541) t (d : Int)))], h103)) rfl ?_
      refine yy_fin.if rfl (fun cq => ?_) (fun cq => absurd ((yi_z_ge (a := s_l (g0 541) t (d : Int)) (by omega)).mpr (by omega)) cq)
      have cq := (yi_z_ge (a := s_l (g0 541) t (d : Int)) (by omega)).mp cq
      suffices J104 : ∀ (h' : zz_H) (p104 : Int), p104 = y_sgz (g0 541) t 0 d s0 → yCx own w lst g0 h' g → yx (yAk w) (a + 6) (e + 12) h0 h' → yRm h0 h' w b23 [(Int32.ofInt p104), (Int32.ofInt s1), (Int32.ofInt s2), (Int32.ofInt (s3 + y_nz (g0 541) t d))] → yy_fin X 298 (907, [some (.ref 1), some (.ref w), some (.ref 0), some (.int (Int32.ofInt fr)), some (.int (Int32.ofInt (t : Int))), some (.int (Int32.ofInt day)), x6, x7, x8, x9, x10, x11, x12, x13, x14, x15, x16, x17, some (.int (Int32.ofInt i18)), x19, x20, x21, some (.int (Int32.ofInt i22)), some (.ref b23), some (.int (Int32.ofInt (d : Int))), some (.int (Int32.ofInt (s_l (g0 541) t (d : Int)))), none, none], [], h') φ by
        refine yy_fin.steps (n := 2) (s' := (882, [some (.ref 1), some (.ref w), some (.ref 0), some (.int (Int32.ofInt fr)), some (.int (Int32.ofInt (t : Int))), some (.int (Int32.ofInt day)), x6, x7, x8, x9, x10, x11, x12, x13, x14, x15, x16, x17, some (.int (Int32.ofInt i18)), x19, x20, x21, some (.int (Int32.ofInt i22)), some (.ref b23), some (.int (Int32.ofInt (d : Int))), some (.int (Int32.ofInt (s_l (g0 541) t (d : Int)))), none, none], [.int (Int32.ofInt 0), .ref b23], h103)) rfl ?_
        refine yy_fin.lp (j := 0) rfl O23.2 rfl (by decide) rfl ?_
        refine yy_fin.if rfl (fun c105 => ?_) (fun c105 => ?_)
        · have c105 := (yi_z_lt (a := s0) (by omega)).mp c105
          refine yy_fin.steps (n := 3) (s' := (906, [some (.ref 1), some (.ref w), some (.ref 0), some (.int (Int32.ofInt fr)), some (.int (Int32.ofInt (t : Int))), some (.int (Int32.ofInt day)), x6, x7, x8, x9, x10, x11, x12, x13, x14, x15, x16, x17, some (.int (Int32.ofInt i18)), x19, x20, x21, some (.int (Int32.ofInt i22)), some (.ref b23), some (.int (Int32.ofInt (d : Int))), some (.int (Int32.ofInt (s_l (g0 541) t (d : Int)))), none, none], [.int (Int32.ofInt (d : Int)), .int (Int32.ofInt 0), .ref b23], h103)) rfl ?_
          refine yy_fin.sp rfl O23.2 rfl (by decide) (show 0 < 4 by omega) fun h106 x106 q106 => ?_
          have hx106 := x106.1
          replace C := C.m M O23 x106
          replace Y := Y.m O23 x106
          replace hY := Y.1
          replace O23 : yRm h0 h106 w b23 [(Int32.ofInt (d : Int)), (Int32.ofInt s1), (Int32.ofInt s2), (Int32.ofInt (s3 + y_nz (g0 541) t d))] := O23.s q106
          exact J104 _ ((d : Int)) (by unfold y_sgz; rw [if_neg (show ¬ s_l (g0 541) t (d : Int) = -1 by omega)]; rw [if_pos (Or.inl (by omega))]) C (Y.le (by omega) (by omega)) O23
        · have c105 := mt (yi_z_lt (a := s0) (by omega)).mpr c105
          refine yy_fin.steps (n := 5) (s' := (894, [some (.ref 1), some (.ref w), some (.ref 0), some (.int (Int32.ofInt fr)), some (.int (Int32.ofInt (t : Int))), some (.int (Int32.ofInt day)), x6, x7, x8, x9, x10, x11, x12, x13, x14, x15, x16, x17, some (.int (Int32.ofInt i18)), x19, x20, x21, some (.int (Int32.ofInt i22)), some (.ref b23), some (.int (Int32.ofInt (d : Int))), some (.int (Int32.ofInt (s_l (g0 541) t (d : Int)))), none, none], [.int (Int32.ofInt 0), .ref b23, .int (Int32.ofInt (t : Int)), .ref w, .int (Int32.ofInt (s_l (g0 541) t (d : Int)))], h103)) rfl ?_
          refine yy_fin.lp (j := 0) rfl O23.2 rfl (by decide) rfl ?_
          obtain ⟨fw107, oW107⟩ := C.ow
          refine yy_fin.cv (as := [.int (Int32.ofInt (t : Int)), .int (Int32.ofInt s0)]) rfl rfl rfl oW107 (Nat.le_of_ble_eq_true rfl) (Nat.le_of_ble_eq_true rfl) (yc_light2 F C ht (d := s0) (by omega) (by omega)) ?_
          rintro v h107 ⟨rfl, C, x107⟩
          replace O23 := O23.k x107
          have hx107 := x107.1
          replace Y := Y.tr x107 (fun _ _ e => e)
          replace hY := Y.1
          refine yy_fin.ic rfl (fun c108 => ?_) (fun c108 => ?_)
          · have c108 := (yi_c_le (a := s_l (g0 541) t (d : Int)) (b := s_l (g0 541) t s0) (by omega) (by omega)).mp c108
            exact J104 _ (s0) (by unfold y_sgz; rw [if_neg (show ¬ s_l (g0 541) t (d : Int) = -1 by omega)]; rw [if_neg (show ¬ (s0 = -2 ∨ y_vk (g0 541) t 0 s0 < y_se 0 (s_l (g0 541) t (d : Int))) from fun z => z.elim (by omega) (fun z => by have ev : y_vk (g0 541) t 0 s0 = y_se 0 (s_l (g0 541) t s0) := if_neg (by omega); rw [ev] at z; unfold y_se at z; rw [if_pos rfl, if_pos rfl] at z; omega))]) C (Y.le (by omega) (by omega)) O23
          · have c108 := mt (yi_c_le (a := s_l (g0 541) t (d : Int)) (b := s_l (g0 541) t s0) (by omega) (by omega)).mpr c108
            refine yy_fin.steps (n := 3) (s' := (906, [some (.ref 1), some (.ref w), some (.ref 0), some (.int (Int32.ofInt fr)), some (.int (Int32.ofInt (t : Int))), some (.int (Int32.ofInt day)), x6, x7, x8, x9, x10, x11, x12, x13, x14, x15, x16, x17, some (.int (Int32.ofInt i18)), x19, x20, x21, some (.int (Int32.ofInt i22)), some (.ref b23), some (.int (Int32.ofInt (d : Int))), some (.int (Int32.ofInt (s_l (g0 541) t (d : Int)))), none, none], [.int (Int32.ofInt (d : Int)), .int (Int32.ofInt 0), .ref b23], h107)) rfl ?_
            refine yy_fin.sp rfl O23.2 rfl (by decide) (show 0 < 4 by omega) fun h109 x109 q109 => ?_
            have hx109 := x109.1
            replace C := C.m M O23 x109
            replace Y := Y.m O23 x109
            replace hY := Y.1
            replace O23 : yRm h0 h109 w b23 [(Int32.ofInt (d : Int)), (Int32.ofInt s1), (Int32.ofInt s2), (Int32.ofInt (s3 + y_nz (g0 541) t d))] := O23.s q109
            exact J104 _ ((d : Int)) (by unfold y_sgz; rw [if_neg (show ¬ s_l (g0 541) t (d : Int) = -1 by omega)]; rw [if_pos (Or.inr (by have ev : y_vk (g0 541) t 0 s0 = y_se 0 (s_l (g0 541) t s0) := if_neg (by omega); rw [ev]; unfold y_se; rw [if_pos rfl, if_pos rfl]; omega))]) C (Y.le (by omega) (by omega)) O23
      intro h104 p104 ep104 C Y O23
      replace hY := Y.1
      suffices J110 : ∀ (h' : zz_H) (p110 : Int), p110 = y_sgz (g0 541) t 1 d s1 → yCx own w lst g0 h' g → yx (yAk w) (a + 9) (e + 18) h0 h' → yRm h0 h' w b23 [(Int32.ofInt p104), (Int32.ofInt p110), (Int32.ofInt s2), (Int32.ofInt (s3 + y_nz (g0 541) t d))] → yy_fin X 298 (935, [some (.ref 1), some (.ref w), some (.ref 0), some (.int (Int32.ofInt fr)), some (.int (Int32.ofInt (t : Int))), some (.int (Int32.ofInt day)), x6, x7, x8, x9, x10, x11, x12, x13, x14, x15, x16, x17, some (.int (Int32.ofInt i18)), x19, x20, x21, some (.int (Int32.ofInt i22)), some (.ref b23), some (.int (Int32.ofInt (d : Int))), some (.int (Int32.ofInt (s_l (g0 541) t (d : Int)))), none, none], [], h') φ by
        refine yy_fin.steps (n := 2) (s' := (910, [some (.ref 1), some (.ref w), some (.ref 0), some (.int (Int32.ofInt fr)), some (.int (Int32.ofInt (t : Int))), some (.int (Int32.ofInt day)), x6, x7, x8, x9, x10, x11, x12, x13, x14, x15, x16, x17, some (.int (Int32.ofInt i18)), x19, x20, x21, some (.int (Int32.ofInt i22)), some (.ref b23), some (.int (Int32.ofInt (d : Int))), some (.int (Int32.ofInt (s_l (g0 541) t (d : Int)))), none, none], [.int (Int32.ofInt 1), .ref b23], h104)) rfl ?_
        refine yy_fin.lp (j := 1) rfl O23.2 rfl (by decide) rfl ?_
        refine yy_fin.if rfl (fun c111 => ?_) (fun c111 => ?_)
        · have c111 := (yi_z_lt (a := s1) (by omega)).mp c111
          refine yy_fin.steps (n := 3) (s' := (934, [some (.ref 1), some (.ref w), some (.ref 0), some (.int (Int32.ofInt fr)), some (.int (Int32.ofInt (t : Int))), some (.int (Int32.ofInt day)), x6, x7, x8, x9, x10, x11, x12, x13, x14, x15, x16, x17, some (.int (Int32.ofInt i18)), x19, x20, x21, some (.int (Int32.ofInt i22)), some (.ref b23), some (.int (Int32.ofInt (d : Int))), some (.int (Int32.ofInt (s_l (g0 541) t (d : Int)))), none, none], [.int (Int32.ofInt (d : Int)), .int (Int32.ofInt 1), .ref b23], h104)) rfl ?_
          refine yy_fin.sp rfl O23.2 rfl (by decide) (show 1 < 4 by omega) fun h112 x112 q112 => ?_
          have hx112 := x112.1
          replace C := C.m M O23 x112
          replace Y := Y.m O23 x112
          replace hY := Y.1
          replace O23 : yRm h0 h112 w b23 [(Int32.ofInt p104), (Int32.ofInt (d : Int)), (Int32.ofInt s2), (Int32.ofInt (s3 + y_nz (g0 541) t d))] := O23.s q112
          exact J110 _ ((d : Int)) (by unfold y_sgz; rw [if_neg (show ¬ s_l (g0 541) t (d : Int) = -1 by omega)]; rw [if_pos (Or.inl (by omega))]) C (Y.le (by omega) (by omega)) O23
        · have c111 := mt (yi_z_lt (a := s1) (by omega)).mpr c111
          refine yy_fin.steps (n := 5) (s' := (922, [some (.ref 1), some (.ref w), some (.ref 0), some (.int (Int32.ofInt fr)), some (.int (Int32.ofInt (t : Int))), some (.int (Int32.ofInt day)), x6, x7, x8, x9, x10, x11, x12, x13, x14, x15, x16, x17, some (.int (Int32.ofInt i18)), x19, x20, x21, some (.int (Int32.ofInt i22)), some (.ref b23), some (.int (Int32.ofInt (d : Int))), some (.int (Int32.ofInt (s_l (g0 541) t (d : Int)))), none, none], [.int (Int32.ofInt 1), .ref b23, .int (Int32.ofInt (t : Int)), .ref w, .int (Int32.ofInt (s_l (g0 541) t (d : Int)))], h104)) rfl ?_
          refine yy_fin.lp (j := 1) rfl O23.2 rfl (by decide) rfl ?_
          obtain ⟨fw113, oW113⟩ := C.ow
          refine yy_fin.cv (as := [.int (Int32.ofInt (t : Int)), .int (Int32.ofInt s1)]) rfl rfl rfl oW113 (Nat.le_of_ble_eq_true rfl) (Nat.le_of_ble_eq_true rfl) (yc_light2 F C ht (d := s1) (by omega) (by omega)) ?_
          rintro v h113 ⟨rfl, C, x113⟩
          replace O23 := O23.k x113
          have hx113 := x113.1
          replace Y := Y.tr x113 (fun _ _ e => e)
          replace hY := Y.1
          refine yy_fin.ic rfl (fun c114 => ?_) (fun c114 => ?_)
          · have c114 := (yi_c_ge (a := s_l (g0 541) t (d : Int)) (b := s_l (g0 541) t s1) (by omega) (by omega)).mp c114
            exact J110 _ (s1) (by unfold y_sgz; rw [if_neg (show ¬ s_l (g0 541) t (d : Int) = -1 by omega)]; rw [if_neg (show ¬ (s1 = -2 ∨ y_vk (g0 541) t 1 s1 < y_se 1 (s_l (g0 541) t (d : Int))) from fun z => z.elim (by omega) (fun z => by have ev : y_vk (g0 541) t 1 s1 = y_se 1 (s_l (g0 541) t s1) := if_neg (by omega); rw [ev] at z; unfold y_se at z; rw [if_neg (by decide), if_pos rfl, if_neg (by decide), if_pos rfl] at z; omega))]) C (Y.le (by omega) (by omega)) O23
          · have c114 := mt (yi_c_ge (a := s_l (g0 541) t (d : Int)) (b := s_l (g0 541) t s1) (by omega) (by omega)).mpr c114
            refine yy_fin.steps (n := 3) (s' := (934, [some (.ref 1), some (.ref w), some (.ref 0), some (.int (Int32.ofInt fr)), some (.int (Int32.ofInt (t : Int))), some (.int (Int32.ofInt day)), x6, x7, x8, x9, x10, x11, x12, x13, x14, x15, x16, x17, some (.int (Int32.ofInt i18)), x19, x20, x21, some (.int (Int32.ofInt i22)), some (.ref b23), some (.int (Int32.ofInt (d : Int))), some (.int (Int32.ofInt (s_l (g0 541) t (d : Int)))), none, none], [.int (Int32.ofInt (d : Int)), .int (Int32.ofInt 1), .ref b23], h113)) rfl ?_
            refine yy_fin.sp rfl O23.2 rfl (by decide) (show 1 < 4 by omega) fun h115 x115 q115 => ?_
            have hx115 := x115.1
            replace C := C.m M O23 x115
            replace Y := Y.m O23 x115
            replace hY := Y.1
            replace O23 : yRm h0 h115 w b23 [(Int32.ofInt p104), (Int32.ofInt (d : Int)), (Int32.ofInt s2), (Int32.ofInt (s3 + y_nz (g0 541) t d))] := O23.s q115
            exact J110 _ ((d : Int)) (by unfold y_sgz; rw [if_neg (show ¬ s_l (g0 541) t (d : Int) = -1 by omega)]; rw [if_pos (Or.inr (by have ev : y_vk (g0 541) t 1 s1 = y_se 1 (s_l (g0 541) t s1) := if_neg (by omega); rw [ev]; unfold y_se; rw [if_neg (by decide), if_pos rfl, if_neg (by decide), if_pos rfl]; omega))]) C (Y.le (by omega) (by omega)) O23
      intro h110 p110 ep110 C Y O23
      replace hY := Y.1
      suffices J116 : ∀ (h' : zz_H) (p116 : Int), p116 = y_sgz (g0 541) t 2 d s2 → yCx own w lst g0 h' g → yx (yAk w) (a + 12) (e + 24) h0 h' → yRm h0 h' w b23 [(Int32.ofInt p104), (Int32.ofInt p110), (Int32.ofInt p116), (Int32.ofInt (s3 + y_nz (g0 541) t d))] → yy_fin X 298 (975, [some (.ref 1), some (.ref w), some (.ref 0), some (.int (Int32.ofInt fr)), some (.int (Int32.ofInt (t : Int))), some (.int (Int32.ofInt day)), x6, x7, x8, x9, x10, x11, x12, x13, x14, x15, x16, x17, some (.int (Int32.ofInt i18)), x19, x20, x21, some (.int (Int32.ofInt i22)), some (.ref b23), some (.int (Int32.ofInt (d : Int))), some (.int (Int32.ofInt (s_l (g0 541) t (d : Int)))), none, none], [], h') φ by
        refine yy_fin.steps (n := 2) (s' := (938, [some (.ref 1), some (.ref w), some (.ref 0), some (.int (Int32.ofInt fr)), some (.int (Int32.ofInt (t : Int))), some (.int (Int32.ofInt day)), x6, x7, x8, x9, x10, x11, x12, x13, x14, x15, x16, x17, some (.int (Int32.ofInt i18)), x19, x20, x21, some (.int (Int32.ofInt i22)), some (.ref b23), some (.int (Int32.ofInt (d : Int))), some (.int (Int32.ofInt (s_l (g0 541) t (d : Int)))), none, none], [.int (Int32.ofInt 2), .ref b23], h110)) rfl ?_
        refine yy_fin.lp (j := 2) rfl O23.2 rfl (by decide) rfl ?_
        refine yy_fin.if rfl (fun c117 => ?_) (fun c117 => ?_)
        · have c117 := (yi_z_lt (a := s2) (by omega)).mp c117
          refine yy_fin.steps (n := 3) (s' := (974, [some (.ref 1), some (.ref w), some (.ref 0), some (.int (Int32.ofInt fr)), some (.int (Int32.ofInt (t : Int))), some (.int (Int32.ofInt day)), x6, x7, x8, x9, x10, x11, x12, x13, x14, x15, x16, x17, some (.int (Int32.ofInt i18)), x19, x20, x21, some (.int (Int32.ofInt i22)), some (.ref b23), some (.int (Int32.ofInt (d : Int))), some (.int (Int32.ofInt (s_l (g0 541) t (d : Int)))), none, none], [.int (Int32.ofInt (d : Int)), .int (Int32.ofInt 2), .ref b23], h110)) rfl ?_
          refine yy_fin.sp rfl O23.2 rfl (by decide) (show 2 < 4 by omega) fun h118 x118 q118 => ?_
          have hx118 := x118.1
          replace C := C.m M O23 x118
          replace Y := Y.m O23 x118
          replace hY := Y.1
          replace O23 : yRm h0 h118 w b23 [(Int32.ofInt p104), (Int32.ofInt p110), (Int32.ofInt (d : Int)), (Int32.ofInt (s3 + y_nz (g0 541) t d))] := O23.s q118
          exact J116 _ ((d : Int)) (by unfold y_sgz; rw [if_neg (show ¬ s_l (g0 541) t (d : Int) = -1 by omega)]; rw [if_pos (Or.inl (by omega))]) C (Y.le (by omega) (by omega)) O23
        · have c117 := mt (yi_z_lt (a := s2) (by omega)).mpr c117
          refine yy_fin.steps (n := 8) (s' := (956, [some (.ref 1), some (.ref w), some (.ref 0), some (.int (Int32.ofInt fr)), some (.int (Int32.ofInt (t : Int))), some (.int (Int32.ofInt day)), x6, x7, x8, x9, x10, x11, x12, x13, x14, x15, x16, x17, some (.int (Int32.ofInt i18)), x19, x20, x21, some (.int (Int32.ofInt i22)), some (.ref b23), some (.int (Int32.ofInt (d : Int))), some (.int (Int32.ofInt (s_l (g0 541) t (d : Int)))), none, none], [.int (Int32.ofInt 2), .ref b23, .int (Int32.ofInt (t : Int)), .ref w, .int (if 0 ≤ ((Int32.ofInt (s_l (g0 541) t (d : Int))) - (Int32.ofInt 43200)) then ((Int32.ofInt (s_l (g0 541) t (d : Int))) - (Int32.ofInt 43200)) else 0 - ((Int32.ofInt (s_l (g0 541) t (d : Int))) - (Int32.ofInt 43200)))], h110)) rfl ?_
          rw [yi_sub (s_l (g0 541) t (d : Int)) 43200]
          rw [yi_abs (a := (s_l (g0 541) t (d : Int)) - 43200) (by omega)]
          refine yy_fin.lp (j := 2) rfl O23.2 rfl (by decide) rfl ?_
          obtain ⟨fw119, oW119⟩ := C.ow
          refine yy_fin.cv (as := [.int (Int32.ofInt (t : Int)), .int (Int32.ofInt s2)]) rfl rfl rfl oW119 (Nat.le_of_ble_eq_true rfl) (Nat.le_of_ble_eq_true rfl) (yc_light2 F C ht (d := s2) (by omega) (by omega)) ?_
          rintro v h119 ⟨rfl, C, x119⟩
          replace O23 := O23.k x119
          have hx119 := x119.1
          replace Y := Y.tr x119 (fun _ _ e => e)
          replace hY := Y.1
          refine yy_fin.steps (n := 3) (s' := (966, [some (.ref 1), some (.ref w), some (.ref 0), some (.int (Int32.ofInt fr)), some (.int (Int32.ofInt (t : Int))), some (.int (Int32.ofInt day)), x6, x7, x8, x9, x10, x11, x12, x13, x14, x15, x16, x17, some (.int (Int32.ofInt i18)), x19, x20, x21, some (.int (Int32.ofInt i22)), some (.ref b23), some (.int (Int32.ofInt (d : Int))), some (.int (Int32.ofInt (s_l (g0 541) t (d : Int)))), none, none], [.int (if 0 ≤ ((Int32.ofInt (s_l (g0 541) t s2)) - (Int32.ofInt 43200)) then ((Int32.ofInt (s_l (g0 541) t s2)) - (Int32.ofInt 43200)) else 0 - ((Int32.ofInt (s_l (g0 541) t s2)) - (Int32.ofInt 43200))), .int (Int32.ofInt (yabs ((s_l (g0 541) t (d : Int)) - 43200)))], h119)) rfl ?_
          rw [yi_sub (s_l (g0 541) t s2) 43200]
          rw [yi_abs (a := (s_l (g0 541) t s2) - 43200) (by omega)]
          refine yy_fin.ic rfl (fun c120 => ?_) (fun c120 => ?_)
          · have c120 := (yi_c_ge (a := yabs ((s_l (g0 541) t (d : Int)) - 43200)) (b := yabs ((s_l (g0 541) t s2) - 43200)) (by omega) (by omega)).mp c120
            exact J116 _ (s2) (by unfold y_sgz; rw [if_neg (show ¬ s_l (g0 541) t (d : Int) = -1 by omega)]; rw [if_neg (show ¬ (s2 = -2 ∨ y_vk (g0 541) t 2 s2 < y_se 2 (s_l (g0 541) t (d : Int))) from fun z => z.elim (by omega) (fun z => by have ev : y_vk (g0 541) t 2 s2 = y_se 2 (s_l (g0 541) t s2) := if_neg (by omega); rw [ev] at z; have z : -(yabs (s_l (g0 541) t s2 - 43200)) < -(yabs (s_l (g0 541) t (d : Int) - 43200)) := z; omega))]) C (Y.le (by omega) (by omega)) O23
          · have c120 := mt (yi_c_ge (a := yabs ((s_l (g0 541) t (d : Int)) - 43200)) (b := yabs ((s_l (g0 541) t s2) - 43200)) (by omega) (by omega)).mpr c120
            refine yy_fin.steps (n := 3) (s' := (974, [some (.ref 1), some (.ref w), some (.ref 0), some (.int (Int32.ofInt fr)), some (.int (Int32.ofInt (t : Int))), some (.int (Int32.ofInt day)), x6, x7, x8, x9, x10, x11, x12, x13, x14, x15, x16, x17, some (.int (Int32.ofInt i18)), x19, x20, x21, some (.int (Int32.ofInt i22)), some (.ref b23), some (.int (Int32.ofInt (d : Int))), some (.int (Int32.ofInt (s_l (g0 541) t (d : Int)))), none, none], [.int (Int32.ofInt (d : Int)), .int (Int32.ofInt 2), .ref b23], h119)) rfl ?_
            refine yy_fin.sp rfl O23.2 rfl (by decide) (show 2 < 4 by omega) fun h121 x121 q121 => ?_
            have hx121 := x121.1
            replace C := C.m M O23 x121
            replace Y := Y.m O23 x121
            replace hY := Y.1
            replace O23 : yRm h0 h121 w b23 [(Int32.ofInt p104), (Int32.ofInt p110), (Int32.ofInt (d : Int)), (Int32.ofInt (s3 + y_nz (g0 541) t d))] := O23.s q121
            exact J116 _ ((d : Int)) (by unfold y_sgz; rw [if_neg (show ¬ s_l (g0 541) t (d : Int) = -1 by omega)]; rw [if_pos (Or.inr (by have ev : y_vk (g0 541) t 2 s2 = y_se 2 (s_l (g0 541) t s2) := if_neg (by omega); rw [ev]; show -(yabs (s_l (g0 541) t s2 - 43200)) < -(yabs (s_l (g0 541) t (d : Int) - 43200)); omega))]) C (Y.le (by omega) (by omega)) O23
      intro h116 p116 ep116 C Y O23
      replace hY := Y.1
      refine yy_fin.steps (n := 2) (s' := (836, [some (.ref 1), some (.ref w), some (.ref 0), some (.int (Int32.ofInt fr)), some (.int (Int32.ofInt (t : Int))), some (.int (Int32.ofInt day)), x6, x7, x8, x9, x10, x11, x12, x13, x14, x15, x16, x17, some (.int (Int32.ofInt i18)), x19, x20, x21, some (.int (Int32.ofInt i22)), some (.ref b23), some (.int ((Int32.ofInt (d : Int)) + (Int32.ofInt 1))), some (.int (Int32.ofInt (s_l (g0 541) t (d : Int)))), none, none], [], h116)) rfl ?_
      rw [yi_add (d : Int) 1]
      rw [show (d : Int) + 1 = ((d + 1 : Nat) : Int) by omega]
      exact yl_sl F ht hd M hR kk n (d + 1) _ _ _ _ _ _ _ _ (by omega) (by rw [← e0, fd_i_c, ep104]) (by rw [← e1, fd_i_c, ep110]) (by rw [← e2, fd_i_c, ep116]) (by rw [← e3]; exact Int.add_assoc ..) (by rw [ep104]; exact y_sg_ch c0 (by omega)) (by rw [ep110]; exact y_sg_ch c1 (by omega)) (by rw [ep116]; exact y_sg_ch c2 (by omega)) C Y O23 (by omega) (by omega)
    · have c102 := mt (yi_z_ge (a := s_l (g0 541) t (d : Int)) (by omega)).mpr c102
      refine yy_fin.steps (n := 3) (s' := (870, [some (.ref 1), some (.ref w), some (.ref 0), some (.int (Int32.ofInt fr)), some (.int (Int32.ofInt (t : Int))), some (.int (Int32.ofInt day)), x6, x7, x8, x9, x10, x11, x12, x13, x14, x15, x16, x17, some (.int (Int32.ofInt i18)), x19, x20, x21, some (.int (Int32.ofInt i22)), some (.ref b23), some (.int (Int32.ofInt (d : Int))), some (.int (Int32.ofInt (s_l (g0 541) t (d : Int)))), none, none], [.int ((Int32.ofInt s3) + (Int32.ofInt 1)), .int (Int32.ofInt 3), .ref b23], h101)) rfl ?_
      rw [yi_add s3 1]
      have en : y_nz (g0 541) t d = 1 := by unfold y_nz; rw [if_pos (by omega)]
      rw [show s3 + 1 = s3 + y_nz (g0 541) t d by omega]
      refine yy_fin.sp rfl O23.2 rfl (by decide) (show 3 < 4 by omega) fun h122 x122 q122 => ?_
      have hx122 := x122.1
      replace C := C.m M O23 x122
      replace Y := Y.m O23 x122
      replace hY := Y.1
      replace O23 : yRm h0 h122 w b23 [(Int32.ofInt s0), (Int32.ofInt s1), (Int32.ofInt s2), (Int32.ofInt (s3 + y_nz (g0 541) t d))] := O23.s q122
      refine yy_fin.steps (n := 1) (s' := (873, [some (.ref 1), some (.ref w), some (.ref 0), some (.int (Int32.ofInt fr)), some (.int (Int32.ofInt (t : Int))), some (.int (Int32.ofInt day)), x6, x7, x8, x9, x10, x11, x12, x13, x14, x15, x16, x17, some (.int (Int32.ofInt i18)), x19, x20, x21, some (.int (Int32.ofInt i22)), some (.ref b23), some (.int (Int32.ofInt (d : Int))), some (.int (Int32.ofInt (s_l (g0 541) t (d : Int)))), none, none], [.int (Int32.ofInt (s_l (g0 541) t (d : Int)))], h122)) rfl ?_
      refine yy_fin.if rfl (fun cq => absurd ((yi_z_ge (a := s_l (g0 541) t (d : Int)) (by omega)).mp cq) (by omega)) (fun cq => ?_)
      have cq := mt (yi_z_ge (a := s_l (g0 541) t (d : Int)) (by omega)).mpr cq
      refine yy_fin.steps (n := 3) (s' := (836, [some (.ref 1), some (.ref w), some (.ref 0), some (.int (Int32.ofInt fr)), some (.int (Int32.ofInt (t : Int))), some (.int (Int32.ofInt day)), x6, x7, x8, x9, x10, x11, x12, x13, x14, x15, x16, x17, some (.int (Int32.ofInt i18)), x19, x20, x21, some (.int (Int32.ofInt i22)), some (.ref b23), some (.int ((Int32.ofInt (d : Int)) + (Int32.ofInt 1))), some (.int (Int32.ofInt (s_l (g0 541) t (d : Int)))), none, none], [], h122)) rfl ?_
      rw [yi_add (d : Int) 1]
      rw [show (d : Int) + 1 = ((d + 1 : Nat) : Int) by omega]
      exact yl_sl F ht hd M hR kk n (d + 1) _ _ _ _ _ _ _ _ (by omega) (by rw [← e0, fd_i_c]; unfold y_sgz; rw [if_pos (show s_l (g0 541) t (d : Int) = -1 by omega)]) (by rw [← e1, fd_i_c]; unfold y_sgz; rw [if_pos (show s_l (g0 541) t (d : Int) = -1 by omega)]) (by rw [← e2, fd_i_c]; unfold y_sgz; rw [if_pos (show s_l (g0 541) t (d : Int) = -1 by omega)]) (by rw [← e3]; exact Int.add_assoc ..) c0 c1 c2 C Y O23 (by omega) (by omega)
theorem yl_sa (F : yCf own w lst g0) (ht : (t : Int) < (g0 541 0).toInt) (hd : 0 ≤ day ∧ day ≤ 35999) (M : yMo own w h0.1.1) {a e : Nat} {i18 i22 : Int} {x6 x7 x8 x9 x10 x11 x12 x13 x14 x15 x16 x17 x19 x20 x21 x23 x24 : Option Value} (C : yCx own w lst g0 h g) (Y : yx (yAk w) a e h0 h) (hR : h0.1.1 + a + 4500 < yy_B) (kk : ∀ h' g' k23 x24 x25, yCx own w lst g0 h' g' → yx (yAk w) (a + 4321) (e + 8644) h0 h' → yy_fin X 298 (1014, [some (.ref 1), some (.ref w), some (.ref 0), some (.int (Int32.ofInt fr)), some (.int (Int32.ofInt (t : Int))), some (.int (Int32.ofInt day)), x6, x7, x8, x9, x10, x11, x12, x13, x14, x15, x16, x17, some (.int (Int32.ofInt i18)), x19, x20, x21, some (.int (Int32.ofInt i22)), some (.ref k23), x24, x25, none, none], [], h') φ) : yy_fin X 298 (809, [some (.ref 1), some (.ref w), some (.ref 0), some (.int (Int32.ofInt fr)), some (.int (Int32.ofInt (t : Int))), some (.int (Int32.ofInt day)), x6, x7, x8, x9, x10, x11, x12, x13, x14, x15, x16, x17, some (.int (Int32.ofInt i18)), x19, x20, x21, some (.int (Int32.ofInt i22)), x23, x24, none, none, none], [], h) φ := by
  have n4 := F.2.2.2.1
  have hq := F.2.2.2.2.1
  have hY := Y.1
  have hg := C.2.1.2
  have l8 := F.2.2.1.2.1
  refine yy_fin.steps (n := 1) (s' := (810, [some (.ref 1), some (.ref w), some (.ref 0), some (.int (Int32.ofInt fr)), some (.int (Int32.ofInt (t : Int))), some (.int (Int32.ofInt day)), x6, x7, x8, x9, x10, x11, x12, x13, x14, x15, x16, x17, some (.int (Int32.ofInt i18)), x19, x20, x21, some (.int (Int32.ofInt i22)), x23, x24, none, none, none], [.int (Int32.ofInt 4)], h)) rfl ?_
  refine yy_fin.ni (n := 4) rfl (by decide) (by decide) (by decide) (by omega) C.2.2.2.2 fun h101 x101 e101 i101 z101 => ?_
  have O23 : yRm h0 h101 w (h.1.1 + 1) [Int32.ofInt 0, Int32.ofInt 0, Int32.ofInt 0, Int32.ofInt 0] := yRm.nw C Y i101 z101
  replace C := C.f x101
  replace x101 := x101.ak (w := w)
  have hx101 := x101.1
  replace Y := Y.tr x101 (fun _ _ e => e)
  replace hY := Y.1
  refine yy_fin.steps (n := 3) (s' := (816, [some (.ref 1), some (.ref w), some (.ref 0), some (.int (Int32.ofInt fr)), some (.int (Int32.ofInt (t : Int))), some (.int (Int32.ofInt day)), x6, x7, x8, x9, x10, x11, x12, x13, x14, x15, x16, x17, some (.int (Int32.ofInt i18)), x19, x20, x21, some (.int (Int32.ofInt i22)), x23, x24, none, none, none], [.int (Int32.ofInt (-2)), .int (Int32.ofInt 0), .ref (h.1.1 + 1), .ref (h.1.1 + 1)], h101)) rfl ?_
  refine yy_fin.sp rfl O23.2 rfl (by decide) (show 0 < 4 by omega) fun h102 x102 q102 => ?_
  have hx102 := x102.1
  replace C := C.m M O23 x102
  replace Y := Y.m O23 x102
  replace hY := Y.1
  replace O23 : yRm h0 h102 w (h.1.1 + 1) [(Int32.ofInt (-2)), (Int32.ofInt 0), (Int32.ofInt 0), (Int32.ofInt 0)] := O23.s q102
  refine yy_fin.steps (n := 3) (s' := (821, [some (.ref 1), some (.ref w), some (.ref 0), some (.int (Int32.ofInt fr)), some (.int (Int32.ofInt (t : Int))), some (.int (Int32.ofInt day)), x6, x7, x8, x9, x10, x11, x12, x13, x14, x15, x16, x17, some (.int (Int32.ofInt i18)), x19, x20, x21, some (.int (Int32.ofInt i22)), x23, x24, none, none, none], [.int (Int32.ofInt (-2)), .int (Int32.ofInt 1), .ref (h.1.1 + 1), .ref (h.1.1 + 1)], h102)) rfl ?_
  refine yy_fin.sp rfl O23.2 rfl (by decide) (show 1 < 4 by omega) fun h103 x103 q103 => ?_
  have hx103 := x103.1
  replace C := C.m M O23 x103
  replace Y := Y.m O23 x103
  replace hY := Y.1
  replace O23 : yRm h0 h103 w (h.1.1 + 1) [(Int32.ofInt (-2)), (Int32.ofInt (-2)), (Int32.ofInt 0), (Int32.ofInt 0)] := O23.s q103
  refine yy_fin.steps (n := 3) (s' := (826, [some (.ref 1), some (.ref w), some (.ref 0), some (.int (Int32.ofInt fr)), some (.int (Int32.ofInt (t : Int))), some (.int (Int32.ofInt day)), x6, x7, x8, x9, x10, x11, x12, x13, x14, x15, x16, x17, some (.int (Int32.ofInt i18)), x19, x20, x21, some (.int (Int32.ofInt i22)), x23, x24, none, none, none], [.int (Int32.ofInt (-2)), .int (Int32.ofInt 2), .ref (h.1.1 + 1), .ref (h.1.1 + 1)], h103)) rfl ?_
  refine yy_fin.sp rfl O23.2 rfl (by decide) (show 2 < 4 by omega) fun h104 x104 q104 => ?_
  have hx104 := x104.1
  replace C := C.m M O23 x104
  replace Y := Y.m O23 x104
  replace hY := Y.1
  replace O23 : yRm h0 h104 w (h.1.1 + 1) [(Int32.ofInt (-2)), (Int32.ofInt (-2)), (Int32.ofInt (-2)), (Int32.ofInt 0)] := O23.s q104
  refine yy_fin.steps (n := 3) (s' := (830, [some (.ref 1), some (.ref w), some (.ref 0), some (.int (Int32.ofInt fr)), some (.int (Int32.ofInt (t : Int))), some (.int (Int32.ofInt day)), x6, x7, x8, x9, x10, x11, x12, x13, x14, x15, x16, x17, some (.int (Int32.ofInt i18)), x19, x20, x21, some (.int (Int32.ofInt i22)), x23, x24, none, none, none], [.int (Int32.ofInt 0), .int (Int32.ofInt 3), .ref (h.1.1 + 1), .ref (h.1.1 + 1)], h104)) rfl ?_
  refine yy_fin.sp rfl O23.2 rfl (by decide) (show 3 < 4 by omega) fun h105 x105 q105 => ?_
  have hx105 := x105.1
  replace C := C.m M O23 x105
  replace Y := Y.m O23 x105
  replace hY := Y.1
  replace O23 : yRm h0 h105 w (h.1.1 + 1) [(Int32.ofInt (-2)), (Int32.ofInt (-2)), (Int32.ofInt (-2)), (Int32.ofInt 0)] := O23.s q105
  refine yy_fin.steps (n := 3) (s' := (836, [some (.ref 1), some (.ref w), some (.ref 0), some (.int (Int32.ofInt fr)), some (.int (Int32.ofInt (t : Int))), some (.int (Int32.ofInt day)), x6, x7, x8, x9, x10, x11, x12, x13, x14, x15, x16, x17, some (.int (Int32.ofInt i18)), x19, x20, x21, some (.int (Int32.ofInt i22)), some (.ref (h.1.1 + 1)), some (.int (Int32.ofInt 0)), none, none, none], [], h105)) rfl ?_
  refine yl_sl F ht hd M (A := a + 4321) (E := e + 8644) (b23 := (h.1.1 + 1)) (T0 := s_23 (g0 541) t 0) (T1 := s_23 (g0 541) t 1) (T2 := s_23 (g0 541) t 2) (T3 := s_23 (g0 541) t 3) (y_rm hR (by decide)) (fun h7 d7 x25 C Y O23 => ?_) 360 0 _ (-2) (-2) (-2) 0 _ _ _ (by omega) (s_23_g F.2.2.2 ht (by decide)).symm (s_23_g F.2.2.2 ht (by decide)).symm (s_23_g F.2.2.2 ht (by decide)).symm (s_23_z F.2.2.2 ht).symm (Or.inl rfl) (Or.inl rfl) (Or.inl rfl) C Y O23 (by omega) (by omega)
  replace hY := Y.1
  refine yy_fin.steps (n := 4) (s' := (987, [some (.ref 1), some (.ref w), some (.ref 0), some (.int (Int32.ofInt fr)), some (.int (Int32.ofInt (t : Int))), some (.int (Int32.ofInt day)), x6, x7, x8, x9, x10, x11, x12, x13, x14, x15, x16, x17, some (.int (Int32.ofInt i18)), x19, x20, x21, some (.int (Int32.ofInt i22)), some (.ref (h.1.1 + 1)), some (.int (Int32.ofInt 0)), x25, none, none], [.int (Int32.ofInt 4), .int (Int32.ofInt 0)], h7)) rfl ?_
  refine yy_fin.ic rfl (fun cK => absurd cK (by decide)) (fun cK => ?_)
  refine yy_fin.steps (n := 3) (s' := (995, [some (.ref 1), some (.ref w), some (.ref 0), some (.int (Int32.ofInt fr)), some (.int (Int32.ofInt (t : Int))), some (.int (Int32.ofInt day)), x6, x7, x8, x9, x10, x11, x12, x13, x14, x15, x16, x17, some (.int (Int32.ofInt i18)), x19, x20, x21, some (.int (Int32.ofInt i22)), some (.ref (h.1.1 + 1)), some (.int (Int32.ofInt 0)), x25, none, none], [.int (Int32.ofInt 0), .int (Int32.ofInt (t : Int)), .ref 1], h7)) rfl ?_
  obtain ⟨g106, r106⟩ := qi_122 F C ht (k := 0) (by omega)
  obtain ⟨fs106, oo106⟩ := C.o
  refine yy_fin.cv (as := [.int (Int32.ofInt (t : Int)), .int (Int32.ofInt 0)]) rfl rfl rfl oo106 (Nat.le_of_ble_eq_true rfl) (Nat.le_of_ble_eq_true rfl) r106 ?_
  rintro v h106 ⟨rfl, C, x106⟩
  replace O23 := O23.k x106
  have hx106 := x106.1
  replace Y := Y.tr x106 (fun _ _ e => e)
  replace hY := Y.1
  refine yy_fin.steps (n := 2) (s' := (1002, [some (.ref 1), some (.ref w), some (.ref 0), some (.int (Int32.ofInt fr)), some (.int (Int32.ofInt (t : Int))), some (.int (Int32.ofInt day)), x6, x7, x8, x9, x10, x11, x12, x13, x14, x15, x16, x17, some (.int (Int32.ofInt i18)), x19, x20, x21, some (.int (Int32.ofInt i22)), some (.ref (h.1.1 + 1)), some (.int (Int32.ofInt 0)), x25, none, none], [.int (Int32.ofInt 0), .ref (h.1.1 + 1), .int (Int32.ofInt (if (0 : Int) = 4 then -1 else s_23 (g0 541) t 0))], h106)) rfl ?_
  refine yy_fin.lp (j := 0) rfl O23.2 rfl (by decide) rfl ?_
  refine yy_fin.ic rfl (fun _ => ?_) (fun cz => absurd (y_ceq (congrArg Int32.ofInt (if_neg (by decide) : (if (0 : Int) = 4 then (-1 : Int) else s_23 (g0 541) t 0) = s_23 (g0 541) t 0))) cz)
  refine yy_fin.steps (n := 4) (s' := (987, [some (.ref 1), some (.ref w), some (.ref 0), some (.int (Int32.ofInt fr)), some (.int (Int32.ofInt (t : Int))), some (.int (Int32.ofInt day)), x6, x7, x8, x9, x10, x11, x12, x13, x14, x15, x16, x17, some (.int (Int32.ofInt i18)), x19, x20, x21, some (.int (Int32.ofInt i22)), some (.ref (h.1.1 + 1)), some (.int ((Int32.ofInt 0) + (Int32.ofInt 1))), x25, none, none], [.int (Int32.ofInt 4), .int ((Int32.ofInt 0) + (Int32.ofInt 1))], h106)) rfl ?_
  rw [show (Int32.ofInt 0) + (Int32.ofInt 1) = Int32.ofInt 1 from by decide]
  refine yy_fin.ic rfl (fun cK => absurd cK (by decide)) (fun cK => ?_)
  refine yy_fin.steps (n := 3) (s' := (995, [some (.ref 1), some (.ref w), some (.ref 0), some (.int (Int32.ofInt fr)), some (.int (Int32.ofInt (t : Int))), some (.int (Int32.ofInt day)), x6, x7, x8, x9, x10, x11, x12, x13, x14, x15, x16, x17, some (.int (Int32.ofInt i18)), x19, x20, x21, some (.int (Int32.ofInt i22)), some (.ref (h.1.1 + 1)), some (.int (Int32.ofInt 1)), x25, none, none], [.int (Int32.ofInt 1), .int (Int32.ofInt (t : Int)), .ref 1], h106)) rfl ?_
  obtain ⟨g107, r107⟩ := qi_122 F C ht (k := 1) (by omega)
  obtain ⟨fs107, oo107⟩ := C.o
  refine yy_fin.cv (as := [.int (Int32.ofInt (t : Int)), .int (Int32.ofInt 1)]) rfl rfl rfl oo107 (Nat.le_of_ble_eq_true rfl) (Nat.le_of_ble_eq_true rfl) r107 ?_
  rintro v h107 ⟨rfl, C, x107⟩
  replace O23 := O23.k x107
  have hx107 := x107.1
  replace Y := Y.tr x107 (fun _ _ e => e)
  replace hY := Y.1
  refine yy_fin.steps (n := 2) (s' := (1002, [some (.ref 1), some (.ref w), some (.ref 0), some (.int (Int32.ofInt fr)), some (.int (Int32.ofInt (t : Int))), some (.int (Int32.ofInt day)), x6, x7, x8, x9, x10, x11, x12, x13, x14, x15, x16, x17, some (.int (Int32.ofInt i18)), x19, x20, x21, some (.int (Int32.ofInt i22)), some (.ref (h.1.1 + 1)), some (.int (Int32.ofInt 1)), x25, none, none], [.int (Int32.ofInt 1), .ref (h.1.1 + 1), .int (Int32.ofInt (if (1 : Int) = 4 then -1 else s_23 (g0 541) t 1))], h107)) rfl ?_
  refine yy_fin.lp (j := 1) rfl O23.2 rfl (by decide) rfl ?_
  refine yy_fin.ic rfl (fun _ => ?_) (fun cz => absurd (y_ceq (congrArg Int32.ofInt (if_neg (by decide) : (if (1 : Int) = 4 then (-1 : Int) else s_23 (g0 541) t 1) = s_23 (g0 541) t 1))) cz)
  refine yy_fin.steps (n := 4) (s' := (987, [some (.ref 1), some (.ref w), some (.ref 0), some (.int (Int32.ofInt fr)), some (.int (Int32.ofInt (t : Int))), some (.int (Int32.ofInt day)), x6, x7, x8, x9, x10, x11, x12, x13, x14, x15, x16, x17, some (.int (Int32.ofInt i18)), x19, x20, x21, some (.int (Int32.ofInt i22)), some (.ref (h.1.1 + 1)), some (.int ((Int32.ofInt 1) + (Int32.ofInt 1))), x25, none, none], [.int (Int32.ofInt 4), .int ((Int32.ofInt 1) + (Int32.ofInt 1))], h107)) rfl ?_
  rw [show (Int32.ofInt 1) + (Int32.ofInt 1) = Int32.ofInt 2 from by decide]
  refine yy_fin.ic rfl (fun cK => absurd cK (by decide)) (fun cK => ?_)
  refine yy_fin.steps (n := 3) (s' := (995, [some (.ref 1), some (.ref w), some (.ref 0), some (.int (Int32.ofInt fr)), some (.int (Int32.ofInt (t : Int))), some (.int (Int32.ofInt day)), x6, x7, x8, x9, x10, x11, x12, x13, x14, x15, x16, x17, some (.int (Int32.ofInt i18)), x19, x20, x21, some (.int (Int32.ofInt i22)), some (.ref (h.1.1 + 1)), some (.int (Int32.ofInt 2)), x25, none, none], [.int (Int32.ofInt 2), .int (Int32.ofInt (t : Int)), .ref 1], h107)) rfl ?_
  obtain ⟨g108, r108⟩ := qi_122 F C ht (k := 2) (by omega)
  obtain ⟨fs108, oo108⟩ := C.o
  refine yy_fin.cv (as := [.int (Int32.ofInt (t : Int)), .int (Int32.ofInt 2)]) rfl rfl rfl oo108 (Nat.le_of_ble_eq_true rfl) (Nat.le_of_ble_eq_true rfl) r108 ?_
  rintro v h108 ⟨rfl, C, x108⟩
  replace O23 := O23.k x108
  have hx108 := x108.1
  replace Y := Y.tr x108 (fun _ _ e => e)
  replace hY := Y.1
  refine yy_fin.steps (n := 2) (s' := (1002, [some (.ref 1), some (.ref w), some (.ref 0), some (.int (Int32.ofInt fr)), some (.int (Int32.ofInt (t : Int))), some (.int (Int32.ofInt day)), x6, x7, x8, x9, x10, x11, x12, x13, x14, x15, x16, x17, some (.int (Int32.ofInt i18)), x19, x20, x21, some (.int (Int32.ofInt i22)), some (.ref (h.1.1 + 1)), some (.int (Int32.ofInt 2)), x25, none, none], [.int (Int32.ofInt 2), .ref (h.1.1 + 1), .int (Int32.ofInt (if (2 : Int) = 4 then -1 else s_23 (g0 541) t 2))], h108)) rfl ?_
  refine yy_fin.lp (j := 2) rfl O23.2 rfl (by decide) rfl ?_
  refine yy_fin.ic rfl (fun _ => ?_) (fun cz => absurd (y_ceq (congrArg Int32.ofInt (if_neg (by decide) : (if (2 : Int) = 4 then (-1 : Int) else s_23 (g0 541) t 2) = s_23 (g0 541) t 2))) cz)
  refine yy_fin.steps (n := 4) (s' := (987, [some (.ref 1), some (.ref w), some (.ref 0), some (.int (Int32.ofInt fr)), some (.int (Int32.ofInt (t : Int))), some (.int (Int32.ofInt day)), x6, x7, x8, x9, x10, x11, x12, x13, x14, x15, x16, x17, some (.int (Int32.ofInt i18)), x19, x20, x21, some (.int (Int32.ofInt i22)), some (.ref (h.1.1 + 1)), some (.int ((Int32.ofInt 2) + (Int32.ofInt 1))), x25, none, none], [.int (Int32.ofInt 4), .int ((Int32.ofInt 2) + (Int32.ofInt 1))], h108)) rfl ?_
  rw [show (Int32.ofInt 2) + (Int32.ofInt 1) = Int32.ofInt 3 from by decide]
  refine yy_fin.ic rfl (fun cK => absurd cK (by decide)) (fun cK => ?_)
  refine yy_fin.steps (n := 3) (s' := (995, [some (.ref 1), some (.ref w), some (.ref 0), some (.int (Int32.ofInt fr)), some (.int (Int32.ofInt (t : Int))), some (.int (Int32.ofInt day)), x6, x7, x8, x9, x10, x11, x12, x13, x14, x15, x16, x17, some (.int (Int32.ofInt i18)), x19, x20, x21, some (.int (Int32.ofInt i22)), some (.ref (h.1.1 + 1)), some (.int (Int32.ofInt 3)), x25, none, none], [.int (Int32.ofInt 3), .int (Int32.ofInt (t : Int)), .ref 1], h108)) rfl ?_
  obtain ⟨g109, r109⟩ := qi_122 F C ht (k := 3) (by omega)
  obtain ⟨fs109, oo109⟩ := C.o
  refine yy_fin.cv (as := [.int (Int32.ofInt (t : Int)), .int (Int32.ofInt 3)]) rfl rfl rfl oo109 (Nat.le_of_ble_eq_true rfl) (Nat.le_of_ble_eq_true rfl) r109 ?_
  rintro v h109 ⟨rfl, C, x109⟩
  replace O23 := O23.k x109
  have hx109 := x109.1
  replace Y := Y.tr x109 (fun _ _ e => e)
  replace hY := Y.1
  refine yy_fin.steps (n := 2) (s' := (1002, [some (.ref 1), some (.ref w), some (.ref 0), some (.int (Int32.ofInt fr)), some (.int (Int32.ofInt (t : Int))), some (.int (Int32.ofInt day)), x6, x7, x8, x9, x10, x11, x12, x13, x14, x15, x16, x17, some (.int (Int32.ofInt i18)), x19, x20, x21, some (.int (Int32.ofInt i22)), some (.ref (h.1.1 + 1)), some (.int (Int32.ofInt 3)), x25, none, none], [.int (Int32.ofInt 3), .ref (h.1.1 + 1), .int (Int32.ofInt (if (3 : Int) = 4 then -1 else s_23 (g0 541) t 3))], h109)) rfl ?_
  refine yy_fin.lp (j := 3) rfl O23.2 rfl (by decide) rfl ?_
  refine yy_fin.ic rfl (fun _ => ?_) (fun cz => absurd (y_ceq (congrArg Int32.ofInt (if_neg (by decide) : (if (3 : Int) = 4 then (-1 : Int) else s_23 (g0 541) t 3) = s_23 (g0 541) t 3))) cz)
  refine yy_fin.steps (n := 4) (s' := (987, [some (.ref 1), some (.ref w), some (.ref 0), some (.int (Int32.ofInt fr)), some (.int (Int32.ofInt (t : Int))), some (.int (Int32.ofInt day)), x6, x7, x8, x9, x10, x11, x12, x13, x14, x15, x16, x17, some (.int (Int32.ofInt i18)), x19, x20, x21, some (.int (Int32.ofInt i22)), some (.ref (h.1.1 + 1)), some (.int ((Int32.ofInt 3) + (Int32.ofInt 1))), x25, none, none], [.int (Int32.ofInt 4), .int ((Int32.ofInt 3) + (Int32.ofInt 1))], h109)) rfl ?_
  rw [show (Int32.ofInt 3) + (Int32.ofInt 1) = Int32.ofInt 4 from by decide]
  refine yy_fin.ic rfl (fun cK => ?_) (fun cK => absurd (by decide) cK)
  exact kk _ _ _ _ _ C (Y.le (by omega) (by omega))
end YD17
