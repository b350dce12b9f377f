/-! THE LAW ASKS OF MANY DAYS (298): the loop over the days (printed by wip/p54/w14.py) -/
theorem ww_out {a : Nat → Int32} {t : Nat} {x y : Int} {e : Nat} (he : 36000 ≤ e) : ww_d a t x y e = 0 := by
  unfold ww_d hv_t tw_H
  rw [if_pos (by omega)]
theorem bs_out {a : Nat → Int32} {t : Nat} {x i : Int} {e : Nat} (he : 36000 ≤ e) (s : Int × Int) : bs_f a t x i e s = s := by
  unfold bs_f hv_t tw_H
  rw [if_pos (by omega)]
theorem gr_out {a : Nat → Int32} {t e : Nat} (he : 36000 ≤ e) (s : Int × Int × Int) : gr_f a t e s = s := by
  unfold gr_f
  rw [if_pos (Or.inl (s_l_no (by omega)))]
theorem tt_out {a : Nat → Int32} {t e : Nat} {lst : List (yBell × List fl_T)} (B : yBr a lst) (he : 36000 ≤ e) (s : Int) : tt_f a t lst e s = s := by
  unfold tt_f
  rw [yRq_out B (by omega)]
  exact Int.add_zero s
theorem bz_out {a : Nat → Int32} {t e q : Nat} {lst : List (yBell × List fl_T)} (B : yBr a lst) (he : 36000 ≤ e) (s : Int) : bz_f a t lst q e s = s := by
  unfold bz_f
  rw [yRq_out B (by omega)]
  exact Int.add_zero s
section YD14
variable {X : yy_X} {own : yOwn} {w t L : Nat} {xs : Nat → Int32} {lst : List (yBell × List fl_T)} {g0 g : aa_G} {h h0 : zz_H} {day fr m hr nx : Int} {φ : Option Value → zz_H → Prop}
theorem yl_le (F : yCf own w lst g0) (ht : (t : Int) < (g0 541 0).toInt) (hd : 0 ≤ day ∧ day ≤ 35999) (M : yMo own w h0.1.1) (hm : 1 ≤ m ∧ m ≤ 25) (hhr : 0 ≤ hr ∧ hr ≤ 11) (hnx : hr + 1 ≤ nx ∧ nx ≤ 12) {b10 b11 b16 A E : Nat} {WK P0 P1 P2 U0 U1 U2 GS GT GO TT : Int} {ZZ : Nat → Int} (h9 : b10 < b11 ∧ b11 < b16) (hR : h0.1.1 + A + 4000 < yy_B) (kk : ∀ h' d' x18 x19 x20 x21 x22, yCx own w lst g0 h' g → yx (yAk w) A E h0 h' → yRm h0 h' w b10 [Int32.ofInt P0, Int32.ofInt P1, Int32.ofInt P2] → yRm h0 h' w b11 [Int32.ofInt U0, Int32.ofInt U1, Int32.ofInt U2] → yRm h0 h' w b16 (y_9 ZZ) → yy_fin X 298 (396, [some (.ref 1), some (.ref w), some (.ref 0), some (.int (Int32.ofInt fr)), some (.int (Int32.ofInt (t : Int))), some (.int (Int32.ofInt day)), some (.int (Int32.ofInt m)), some (.int (Int32.ofInt hr)), some (.int (Int32.ofInt nx)), some (.int (Int32.ofInt WK)), some (.ref b10), some (.ref b11), some (.int (Int32.ofInt GS)), some (.int (Int32.ofInt GT)), some (.int (Int32.ofInt GO)), some (.int (Int32.ofInt TT)), some (.ref b16), some (.int (Int32.ofInt d')), x18, x19, x20, x21, x22, none, none, none, none, none], [], h') φ) : ∀ (n d : Nat) (h : zz_H) (wk b0 b1 b2 v0 v1 v2 gs gt go st : Int) (Z : Nat → Int) (x18 x19 x20 x21 x22 : Option Value) (a e : Nat), (d : Int) + n = day + m → day ≤ d → wk + sm_i (ww_d (g0 541) t hr nx) d n = WK → fd_i (bs_f (g0 541) t hr 0) d n (b0, v0) = (P0, U0) → fd_i (bs_f (g0 541) t hr 1) d n (b1, v1) = (P1, U1) → fd_i (bs_f (g0 541) t hr 2) d n (b2, v2) = (P2, U2) → fd_i (gr_f (g0 541) t) d n (gs, gt, go) = (GS, GT, GO) → fd_i (tt_f (g0 541) t lst) d n st = TT → (∀ q, fd_i (bz_f (g0 541) t lst q) d n (Z q) = ZZ q) → (-2 ≤ b0 ∧ b0 ≤ 40000) → (-2 ≤ b1 ∧ b1 ≤ 40000) → (-2 ≤ b2 ∧ b2 ≤ 40000) → (-200000 ≤ v0 ∧ v0 ≤ 200000) → (-200000 ≤ v1 ∧ v1 ≤ 200000) → (-200000 ≤ v2 ∧ v2 ≤ 200000) → (-1000000 ≤ gt ∧ gt ≤ 200000) → yCx own w lst g0 h g → yx (yAk w) a e h0 h → yRm h0 h w b10 [Int32.ofInt b0, Int32.ofInt b1, Int32.ofInt b2] → yRm h0 h w b11 [Int32.ofInt v0, Int32.ofInt v1, Int32.ofInt v2] → yRm h0 h w b16 (y_9 Z) → a + 320 * n ≤ A → e + 1400 * n ≤ E → yy_fin X 298 (96, [some (.ref 1), some (.ref w), some (.ref 0), some (.int (Int32.ofInt fr)), some (.int (Int32.ofInt (t : Int))), some (.int (Int32.ofInt day)), some (.int (Int32.ofInt m)), some (.int (Int32.ofInt hr)), some (.int (Int32.ofInt nx)), some (.int (Int32.ofInt wk)), some (.ref b10), some (.ref b11), some (.int (Int32.ofInt gs)), some (.int (Int32.ofInt gt)), some (.int (Int32.ofInt go)), some (.int (Int32.ofInt st)), some (.ref b16), some (.int (Int32.ofInt (d : Int))), x18, x19, x20, x21, x22, none, none, none, none, none], [], h) φ
  | 0, d, h, wk, b0, b1, b2, v0, v1, v2, gs, gt, go, st, Z, x18, x19, x20, x21, x22, a, e, hn, hdd, e1, e2, e3, e4, e5, e6, e7, p0, p1, p2, u0, u1, u2, pg, C, Y, O10, O11, O16, ha, he => by
    have n4 := F.2.2.2.1
    have hq := F.2.2.2.2.1
    have hY := Y.1
    have hg := C.2.1.2
    have l8 := F.2.2.1.2.1
    have f1 : wk = WK := (Int.add_zero wk).symm.trans e1
    have f2 : (b0, v0) = (P0, U0) := e2
    have f3 : (b1, v1) = (P1, U1) := e3
    have f4 : (b2, v2) = (P2, U2) := e4
    have f5 : (gs, gt, go) = (GS, GT, GO) := e5
    have f6 : st = TT := e6
    have f7 : ∀ q, Z q = ZZ q := e7
    refine yy_fin.steps (n := 4) (s' := (103, [some (.ref 1), some (.ref w), some (.ref 0), some (.int (Int32.ofInt fr)), some (.int (Int32.ofInt (t : Int))), some (.int (Int32.ofInt day)), some (.int (Int32.ofInt m)), some (.int (Int32.ofInt hr)), some (.int (Int32.ofInt nx)), some (.int (Int32.ofInt wk)), some (.ref b10), some (.ref b11), some (.int (Int32.ofInt gs)), some (.int (Int32.ofInt gt)), some (.int (Int32.ofInt go)), some (.int (Int32.ofInt st)), some (.ref b16), some (.int (Int32.ofInt (d : Int))), x18, x19, x20, x21, x22, none, none, none, none, none], [.int ((Int32.ofInt day) + (Int32.ofInt m)), .int (Int32.ofInt (d : Int))], h)) rfl ?_
    rw [yi_add day m]
    refine yy_fin.ic rfl (fun cq => ?_) (fun cq => absurd ((yi_c_ge (a := (d : Int)) (b := day + m) (by omega) (by omega)).mpr (by omega)) cq)
    have cq := (yi_c_ge (a := (d : Int)) (b := day + m) (by omega) (by omega)).mp cq
    obtain rfl := f1
    obtain ⟨rfl, rfl⟩ := Prod.mk.inj f2
    obtain ⟨rfl, rfl⟩ := Prod.mk.inj f3
    obtain ⟨rfl, rfl⟩ := Prod.mk.inj f4
    obtain ⟨rfl, f8⟩ := Prod.mk.inj f5
    obtain ⟨rfl, rfl⟩ := Prod.mk.inj f8
    obtain rfl := f6
    obtain rfl : Z = ZZ := funext f7
    exact kk _ _ _ _ _ _ _ C (Y.le (by omega) (by omega)) O10 O11 O16
  | n + 1, d, h, wk, b0, b1, b2, v0, v1, v2, gs, gt, go, st, Z, x18, x19, x20, x21, x22, a, e, hn, hdd, e1, e2, e3, e4, e5, e6, e7, p0, p1, p2, u0, u1, u2, pg, C, Y, O10, O11, O16, ha, he => by
    have n4 := F.2.2.2.1
    have hq := F.2.2.2.2.1
    have hY := Y.1
    have hg := C.2.1.2
    have l8 := F.2.2.1.2.1
    refine yy_fin.steps (n := 4) (s' := (103, [some (.ref 1), some (.ref w), some (.ref 0), some (.int (Int32.ofInt fr)), some (.int (Int32.ofInt (t : Int))), some (.int (Int32.ofInt day)), some (.int (Int32.ofInt m)), some (.int (Int32.ofInt hr)), some (.int (Int32.ofInt nx)), some (.int (Int32.ofInt wk)), some (.ref b10), some (.ref b11), some (.int (Int32.ofInt gs)), some (.int (Int32.ofInt gt)), some (.int (Int32.ofInt go)), some (.int (Int32.ofInt st)), some (.ref b16), some (.int (Int32.ofInt (d : Int))), x18, x19, x20, x21, x22, none, none, none, none, none], [.int ((Int32.ofInt day) + (Int32.ofInt m)), .int (Int32.ofInt (d : Int))], h)) rfl ?_
    rw [yi_add day m]
    refine yy_fin.ic rfl (fun cq => absurd ((yi_c_ge (a := (d : Int)) (b := day + m) (by omega) (by omega)).mp cq) (by omega)) (fun cq => ?_)
    have cq := mt (yi_c_ge (a := (d : Int)) (b := day + m) (by omega) (by omega)).mpr cq
    refine yy_fin.steps (n := 2) (s' := (110, [some (.ref 1), some (.ref w), some (.ref 0), some (.int (Int32.ofInt fr)), some (.int (Int32.ofInt (t : Int))), some (.int (Int32.ofInt day)), some (.int (Int32.ofInt m)), some (.int (Int32.ofInt hr)), some (.int (Int32.ofInt nx)), some (.int (Int32.ofInt wk)), some (.ref b10), some (.ref b11), some (.int (Int32.ofInt gs)), some (.int (Int32.ofInt gt)), some (.int (Int32.ofInt go)), some (.int (Int32.ofInt st)), some (.ref b16), some (.int (Int32.ofInt (d : Int))), x18, x19, x20, x21, x22, none, none, none, none, none], [.int (Int32.ofInt 36000), .int (Int32.ofInt (d : Int))], h)) rfl ?_
    refine yy_fin.ic rfl (fun c101 => ?_) (fun c101 => ?_)
    · have c101 := (yi_c_ge (a := (d : Int)) (b := 36000) (by omega) (by omega)).mp c101
      have hd6 : 36000 ≤ d := Int.ofNat_le.mp (show ((36000 : Nat) : Int) ≤ (d : Int) from c101)
      have f1 : wk = WK := by rw [← e1, sm_out _ _ fun q hq => ww_out (Nat.le_trans hd6 hq)]; exact (Int.add_zero wk).symm
      have f2 : (b0, v0) = (P0, U0) := by rw [← e2]; exact (fd_out _ _ _ fun q hq s => bs_out (Nat.le_trans hd6 hq) s).symm
      have f3 : (b1, v1) = (P1, U1) := by rw [← e3]; exact (fd_out _ _ _ fun q hq s => bs_out (Nat.le_trans hd6 hq) s).symm
      have f4 : (b2, v2) = (P2, U2) := by rw [← e4]; exact (fd_out _ _ _ fun q hq s => bs_out (Nat.le_trans hd6 hq) s).symm
      have f5 : (gs, gt, go) = (GS, GT, GO) := by rw [← e5]; exact (fd_out _ _ _ fun q hq s => gr_out (Nat.le_trans hd6 hq) s).symm
      have f6 : st = TT := by rw [← e6]; exact (fd_out _ _ _ fun q hq s => tt_out F.2.2.1 (Nat.le_trans hd6 hq) s).symm
      have f7 : ∀ q, Z q = ZZ q := fun q => by rw [← e7 q]; exact (fd_out _ _ _ fun q2 hq s => bz_out F.2.2.1 (Nat.le_trans hd6 hq) s).symm
      obtain rfl := f1
      obtain ⟨rfl, rfl⟩ := Prod.mk.inj f2
      obtain ⟨rfl, rfl⟩ := Prod.mk.inj f3
      obtain ⟨rfl, rfl⟩ := Prod.mk.inj f4
      obtain ⟨rfl, f8⟩ := Prod.mk.inj f5
      obtain ⟨rfl, rfl⟩ := Prod.mk.inj f8
      obtain rfl := f6
      obtain rfl : Z = ZZ := funext f7
      exact kk _ _ _ _ _ _ _ C (Y.le (by omega) (by omega)) O10 O11 O16
    · have c101 := mt (yi_c_ge (a := (d : Int)) (b := 36000) (by omega) (by omega)).mpr c101
      have hd5 : d ≤ 35999 := by clear e1 e2 e3 e4 e5 e6 e7; omega
      refine yy_fin.steps (n := 4) (s' := (119, [some (.ref 1), some (.ref w), some (.ref 0), some (.int (Int32.ofInt fr)), some (.int (Int32.ofInt (t : Int))), some (.int (Int32.ofInt day)), some (.int (Int32.ofInt m)), some (.int (Int32.ofInt hr)), some (.int (Int32.ofInt nx)), some (.int (Int32.ofInt wk)), some (.ref b10), some (.ref b11), some (.int (Int32.ofInt gs)), some (.int (Int32.ofInt gt)), some (.int (Int32.ofInt go)), some (.int (Int32.ofInt st)), some (.ref b16), some (.int (Int32.ofInt (d : Int))), x18, x19, x20, x21, x22, none, none, none, none, none], [.int (Int32.ofInt 0), .int (Int32.ofInt (d : Int)), .int (Int32.ofInt (t : Int)), .ref w], h)) rfl ?_
      have leO10_102 := O10.le
      have leO11_103 := O11.le
      have leO16_104 := O16.le
      obtain ⟨fw105, oW105⟩ := C.ow
      refine yy_fin.cv (as := [.int (Int32.ofInt (t : Int)), .int (Int32.ofInt (d : Int)), .int (Int32.ofInt 0)]) rfl rfl rfl oW105 (Nat.le_of_ble_eq_true rfl) (Nat.le_of_ble_eq_true rfl) (yc_half2 F C ht (day := (d : Int)) (half := 0) (by omega) (Or.inl rfl) (by omega)) ?_
      rintro v h105 ⟨C, x105, q105, rfl, H105⟩
      replace O10 := O10.k x105
      replace O11 := O11.k x105
      replace O16 := O16.k x105
      have hx105 := x105.1
      replace Y := Y.tr x105 (fun _ _ e => e)
      replace hY := Y.1
      suffices K106 : yy_fin X 298 (124, [some (.ref 1), some (.ref w), some (.ref 0), some (.int (Int32.ofInt fr)), some (.int (Int32.ofInt (t : Int))), some (.int (Int32.ofInt day)), some (.int (Int32.ofInt m)), some (.int (Int32.ofInt hr)), some (.int (Int32.ofInt nx)), some (.int (Int32.ofInt wk)), some (.ref b10), some (.ref b11), some (.int (Int32.ofInt gs)), some (.int (Int32.ofInt gt)), some (.int (Int32.ofInt go)), some (.int (Int32.ofInt st)), some (.ref b16), some (.int (Int32.ofInt (d : Int))), some (zz_val q105), x19, x20, x21, x22, none, none, none, none, none], [], h105) φ by cases q105 <;> exact yy_fin.steps (n := 1) rfl K106
      refine yy_fin.steps (n := 3) (s' := (129, [some (.ref 1), some (.ref w), some (.ref 0), some (.int (Int32.ofInt fr)), some (.int (Int32.ofInt (t : Int))), some (.int (Int32.ofInt day)), some (.int (Int32.ofInt m)), some (.int (Int32.ofInt hr)), some (.int (Int32.ofInt nx)), some (.int (Int32.ofInt wk)), some (.ref b10), some (.ref b11), some (.int (Int32.ofInt gs)), some (.int (Int32.ofInt gt)), some (.int (Int32.ofInt go)), some (.int (Int32.ofInt st)), some (.ref b16), some (.int (Int32.ofInt (d : Int))), some (zz_val q105), x19, x20, x21, x22, none, none, none, none, none], [.int (Int32.ofInt (d : Int)), .int (Int32.ofInt (t : Int)), .ref w], h105)) rfl ?_
      have leO10_107 := O10.le
      have leO11_108 := O11.le
      have leO16_109 := O16.le
      obtain ⟨fw110, oW110⟩ := C.ow
      refine yy_fin.cv (as := [.int (Int32.ofInt (t : Int)), .int (Int32.ofInt (d : Int))]) rfl rfl rfl oW110 (Nat.le_of_ble_eq_true rfl) (Nat.le_of_ble_eq_true rfl) (yc_rings2 F C ht (d := (d : Int)) (by omega) (by omega)) ?_
      rintro v h110 ⟨C, x110, q110, rfl, H110⟩
      replace H105 := H105.k x110
      replace O10 := O10.k x110
      replace O11 := O11.k x110
      replace O16 := O16.k x110
      have hx110 := x110.1
      replace Y := Y.tr x110 (fun _ _ e => e)
      replace hY := Y.1
      suffices K111 : yy_fin X 298 (134, [some (.ref 1), some (.ref w), some (.ref 0), some (.int (Int32.ofInt fr)), some (.int (Int32.ofInt (t : Int))), some (.int (Int32.ofInt day)), some (.int (Int32.ofInt m)), some (.int (Int32.ofInt hr)), some (.int (Int32.ofInt nx)), some (.int (Int32.ofInt wk)), some (.ref b10), some (.ref b11), some (.int (Int32.ofInt gs)), some (.int (Int32.ofInt gt)), some (.int (Int32.ofInt go)), some (.int (Int32.ofInt st)), some (.ref b16), some (.int (Int32.ofInt (d : Int))), some (zz_val q105), some (.ref q110), x20, x21, x22, none, none, none, none, none], [], h110) φ by cases q105 <;> exact yy_fin.steps (n := 1) rfl K111
      refine yy_fin.steps (n := 1) (s' := (136, [some (.ref 1), some (.ref w), some (.ref 0), some (.int (Int32.ofInt fr)), some (.int (Int32.ofInt (t : Int))), some (.int (Int32.ofInt day)), some (.int (Int32.ofInt m)), some (.int (Int32.ofInt hr)), some (.int (Int32.ofInt nx)), some (.int (Int32.ofInt wk)), some (.ref b10), some (.ref b11), some (.int (Int32.ofInt gs)), some (.int (Int32.ofInt gt)), some (.int (Int32.ofInt go)), some (.int (Int32.ofInt st)), some (.ref b16), some (.int (Int32.ofInt (d : Int))), some (zz_val q105), some (.ref q110), x20, x21, x22, none, none, none, none, none], [.ref q110], h110)) rfl ?_
      obtain ⟨m19, rs19, R19, l19, a19⟩ := id H110
      refine yy_fin.lr rfl R19 (by decide) ?_
      rw [yi_n, l19]
      refine yy_fin.steps (n := 3) (s' := (142, [some (.ref 1), some (.ref w), some (.ref 0), some (.int (Int32.ofInt fr)), some (.int (Int32.ofInt (t : Int))), some (.int (Int32.ofInt day)), some (.int (Int32.ofInt m)), some (.int (Int32.ofInt hr)), some (.int (Int32.ofInt nx)), some (.int (Int32.ofInt wk)), some (.ref b10), some (.ref b11), some (.int (Int32.ofInt gs)), some (.int (Int32.ofInt gt)), some (.int (Int32.ofInt go)), some (.int (Int32.ofInt st)), some (.ref b16), some (.int (Int32.ofInt (d : Int))), some (zz_val q105), some (.ref q110), some (.int (Int32.ofInt ((yRq (g0 541) t lst (d : Int)).length : Int))), some (.int (Int32.ofInt 0)), x22, none, none, none, none, none], [], h110)) rfl ?_
      refine yl_lb F ht hd M hm hhr hnx (n18 := h.1.1) (n19 := h105.1.1) (T := st + sm_i (fun j => y_stk lst (y_s2 (yRq (g0 541) t lst (d : Int)) j)) 0 (yRq (g0 541) t lst (d : Int)).length) (ZZ := fun q => Z q + sm_i (bz_n (yRq (g0 541) t lst (d : Int)) q) 0 (yRq (g0 541) t lst (d : Int)).length) ⟨h9, by omega, by omega⟩ (fun h3 x22 C Y O10 O11 O16 H105 => ?_) _ 0 _ _ _ _ (by omega) rfl (fun q => rfl) C Y O10 O11 O16 H105 H110
      replace hY := Y.1
      suffices K112 : yy_fin X 298 (192, [some (.ref 1), some (.ref w), some (.ref 0), some (.int (Int32.ofInt fr)), some (.int (Int32.ofInt (t : Int))), some (.int (Int32.ofInt day)), some (.int (Int32.ofInt m)), some (.int (Int32.ofInt hr)), some (.int (Int32.ofInt nx)), some (.int (Int32.ofInt wk)), some (.ref b10), some (.ref b11), some (.int (Int32.ofInt gs)), some (.int (Int32.ofInt gt)), some (.int (Int32.ofInt go)), some (.int (Int32.ofInt (st + sm_i (fun j => y_stk lst (y_s2 (yRq (g0 541) t lst (d : Int)) j)) 0 (yRq (g0 541) t lst (d : Int)).length))), some (.ref b16), some (.int (Int32.ofInt (d : Int))), some (zz_val q105), some (.ref q110), some (.int (Int32.ofInt ((yRq (g0 541) t lst (d : Int)).length : Int))), some (.int (Int32.ofInt ((yRq (g0 541) t lst (d : Int)).length : Int))), x22, none, none, none, none, none], [zz_val q105], h3) φ by cases q105 <;> exact yy_fin.steps (n := 1) rfl K112
      rcases H105 with ⟨rfl, eo⟩ | ⟨q8, u, l, rfl, eo, R18⟩
      · have el : s_l (g0 541) t (d : Int) = -1 := by unfold s_l; rw [eo]; rfl
        refine yy_fin.steps (n := 4) (s' := (96, [some (.ref 1), some (.ref w), some (.ref 0), some (.int (Int32.ofInt fr)), some (.int (Int32.ofInt (t : Int))), some (.int (Int32.ofInt day)), some (.int (Int32.ofInt m)), some (.int (Int32.ofInt hr)), some (.int (Int32.ofInt nx)), some (.int (Int32.ofInt wk)), some (.ref b10), some (.ref b11), some (.int (Int32.ofInt gs)), some (.int (Int32.ofInt gt)), some (.int (Int32.ofInt go)), some (.int (Int32.ofInt (st + sm_i (fun j => y_stk lst (y_s2 (yRq (g0 541) t lst (d : Int)) j)) 0 (yRq (g0 541) t lst (d : Int)).length))), some (.ref b16), some (.int ((Int32.ofInt (d : Int)) + (Int32.ofInt 1))), some (.null), some (.ref q110), some (.int (Int32.ofInt ((yRq (g0 541) t lst (d : Int)).length : Int))), some (.int (Int32.ofInt ((yRq (g0 541) t lst (d : Int)).length : Int))), x22, none, none, none, none, none], [], h3)) rfl ?_
        rw [yi_add (d : Int) 1]
        rw [show (d : Int) + 1 = ((d + 1 : Nat) : Int) by omega]
        refine yl_le F ht hd M hm hhr hnx h9 hR kk n (d + 1) _ _ _ _ _ _ _ _ _ _ _ _ _ _ _ _ _ _ _ _ (by omega) (by omega) (by rw [← e1]; show _ = wk + (ww_d (g0 541) t hr nx d + sm_i (ww_d (g0 541) t hr nx) (d + 1) n); unfold ww_d; rw [eo]; dsimp only; omega) (by rw [← e2, fd_i_c]; unfold bs_f; rw [eo]) (by rw [← e3, fd_i_c]; unfold bs_f; rw [eo]) (by rw [← e4, fd_i_c]; unfold bs_f; rw [eo]) (by rw [← e5, fd_i_c]; unfold gr_f; rw [if_pos (Or.inl el)]) e6 e7 p0 p1 p2 u0 u1 u2 pg C Y O10 O11 O16 (by omega) (by omega)
      · have nq : q8 ≠ b10 ∧ q8 ≠ b11 ∧ q8 ≠ b16 := ⟨R18.ne M O10 (by omega), R18.ne M O11 (by omega), R18.ne M O16 (by omega)⟩
        refine yy_fin.steps (n := 1) (s' := (198, [some (.ref 1), some (.ref w), some (.ref 0), some (.int (Int32.ofInt fr)), some (.int (Int32.ofInt (t : Int))), some (.int (Int32.ofInt day)), some (.int (Int32.ofInt m)), some (.int (Int32.ofInt hr)), some (.int (Int32.ofInt nx)), some (.int (Int32.ofInt wk)), some (.ref b10), some (.ref b11), some (.int (Int32.ofInt gs)), some (.int (Int32.ofInt gt)), some (.int (Int32.ofInt go)), some (.int (Int32.ofInt (st + sm_i (fun j => y_stk lst (y_s2 (yRq (g0 541) t lst (d : Int)) j)) 0 (yRq (g0 541) t lst (d : Int)).length))), some (.ref b16), some (.int (Int32.ofInt (d : Int))), some (.ref q8), some (.ref q110), some (.int (Int32.ofInt ((yRq (g0 541) t lst (d : Int)).length : Int))), some (.int (Int32.ofInt ((yRq (g0 541) t lst (d : Int)).length : Int))), x22, none, none, none, none, none], [], h3)) rfl ?_
        have ew : ww_d (g0 541) t hr nx d = s_h nx l - s_h hr l := by unfold ww_d; rw [eo]; rfl
        refine yl_lc (a := a) (e := e) F ht hd M hm hhr hnx hd5 h9 nq eo p0 p1 p2 u0 u1 u2 C (Y.le (Nat.add_le_add_left (show 261 ≤ 290 by decide) a) (Nat.add_le_add_left (show 1142 ≤ 1250 by decide) e)) (by omega) O10 O11 O16 R18.1 fun h4 c19 r0 s0 r1 s1 r2 s2 k0 k1 k2 C Y O10 O11 O16 => ?_
        replace hY := Y.1
        refine yl_ld (a := a) (e := e) F ht hd M hm hhr hnx hd5 eo pg C Y (by omega) O10 O11 O16 fun h5 x20 ps pt po kg C Y O10 O11 O16 => ?_
        have c0 := bs_f_b (i := 0) (hr := hr) (d := d) F.2.2.2 ht hhr (Nat.le_trans hd5 (by decide)) p0 u0
        rw [← k0] at c0
        dsimp only at c0
        have c1 := bs_f_b (i := 1) (hr := hr) (d := d) F.2.2.2 ht hhr (Nat.le_trans hd5 (by decide)) p1 u1
        rw [← k1] at c1
        dsimp only at c1
        have c2 := bs_f_b (i := 2) (hr := hr) (d := d) F.2.2.2 ht hhr (Nat.le_trans hd5 (by decide)) p2 u2
        rw [← k2] at c2
        dsimp only at c2
        have cg := gr_f_b (x := gs) (z := go) (d := d) F.2.2.2 ht pg
        rw [← kg] at cg
        dsimp only at cg
        refine yy_fin.steps (n := 2) (s' := (96, [some (.ref 1), some (.ref w), some (.ref 0), some (.int (Int32.ofInt fr)), some (.int (Int32.ofInt (t : Int))), some (.int (Int32.ofInt day)), some (.int (Int32.ofInt m)), some (.int (Int32.ofInt hr)), some (.int (Int32.ofInt nx)), some (.int (Int32.ofInt (wk + (s_h nx l - s_h hr l)))), some (.ref b10), some (.ref b11), some (.int (Int32.ofInt ps)), some (.int (Int32.ofInt pt)), some (.int (Int32.ofInt po)), some (.int (Int32.ofInt (st + sm_i (fun j => y_stk lst (y_s2 (yRq (g0 541) t lst (d : Int)) j)) 0 (yRq (g0 541) t lst (d : Int)).length))), some (.ref b16), some (.int ((Int32.ofInt (d : Int)) + (Int32.ofInt 1))), some (.ref q8), some (.ref c19), x20, some (.int (Int32.ofInt ((yRq (g0 541) t lst (d : Int)).length : Int))), x22, none, none, none, none, none], [], h5)) rfl ?_
        rw [yi_add (d : Int) 1]
        rw [show (d : Int) + 1 = ((d + 1 : Nat) : Int) by omega]
        refine yl_le F ht hd M hm hhr hnx h9 hR kk n (d + 1) _ _ _ _ _ _ _ _ _ _ _ _ _ _ _ _ _ _ _ _ (by omega) (by omega) (by rw [← e1]; show _ = wk + (ww_d (g0 541) t hr nx d + sm_i (ww_d (g0 541) t hr nx) (d + 1) n); rw [ew]; exact Int.add_assoc ..) (by rw [k0]; exact e2) (by rw [k1]; exact e3) (by rw [k2]; exact e4) (by rw [kg]; exact e5) e6 e7 c0.1 c1.1 c2.1 c0.2 c1.2 c2.2 cg C Y O10 O11 O16 (by omega) (by omega)
end YD14
