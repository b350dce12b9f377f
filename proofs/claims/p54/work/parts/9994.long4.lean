/-! THE LAW ASKS OF MANY DAYS (298): work, best, growth, total, busiest (printed by wip/p54/w15.py) -/
theorem bz_8 {a : Nat → Int32} {t d : Nat} {lst : List (yBell × List fl_T)} (B : yWb a) (ht : (t : Int) < (a 0).toInt) (Br : yBr a lst) (s : Int) : bz_f a t lst 8 d s = s := by
  have l8 := Br.2.1
  have hb := yRq_b (d := (d : Int)) B ht Br
  unfold bz_f bz_L
  rw [sm_out _ _ fun j _ => ?_]
  · exact Int.add_zero s
  · unfold bz_n
    by_cases c : j < (yRq a t lst (d : Int)).length
    · have := y_s_b hb c
      rw [if_neg (by omega)]
    · have e : y_s2 (yRq a t lst (d : Int)) j = 0 := by
        unfold y_s2
        rw [List.getElem?_eq_none (by omega)]
        rfl
      rw [e, if_neg (by omega)]
theorem bz_g_b {c : Nat → Int} : ∀ (n k b : Nat), k + n ≤ 9 → b < 9 → fd_i (bz_g c) k n b < 9
  | 0, k, b, h, hb => hb
  | n + 1, k, b, h, hb => bz_g_b n (k + 1) (bz_g c k b) (by omega) (by unfold bz_g; split <;> omega)
theorem bz_g_7 {c : Nat → Int} : ∀ (n k b : Nat), k + n ≤ 8 → b < 8 → fd_i (bz_g c) k n b < 8
  | 0, k, b, h, hb => hb
  | n + 1, k, b, h, hb => bz_g_7 n (k + 1) (bz_g c k b) (by omega) (by unfold bz_g; split <;> omega)
section YD15
variable {X : yy_X} {own : yOwn} {w t L : Nat} {xs : Nat → Int32} {lst : List (yBell × List fl_T)} {g0 g : aa_G} {h h0 : zz_H} {day fr m hr nx : Int} {φ : Option Value → zz_H → Prop}
theorem yl_lg {b10 b11 b16 B : Nat} {WK GS GT GO TT : Int} {x20 x21 x22 : Option Value} {ZZ : Nat → Int} (O16 : yRm h0 h w b16 (y_9 ZZ)) (hz : ∀ q, 0 ≤ ZZ q ∧ ZZ q ≤ 10000) (kk : ∀ x : Option Value, yy_fin X 298 (582, [some (.ref 1), some (.ref w), some (.ref 0), some (.int (Int32.ofInt fr)), some (.int (Int32.ofInt (t : Int))), some (.int (Int32.ofInt day)), some (.int (Int32.ofInt m)), some (.int (Int32.ofInt hr)), some (.int (Int32.ofInt nx)), some (.int (Int32.ofInt WK)), some (.ref b10), some (.ref b11), some (.int (Int32.ofInt GS)), some (.int (Int32.ofInt GT)), some (.int (Int32.ofInt GO)), some (.int (Int32.ofInt TT)), some (.ref b16), some (.int (Int32.ofInt (day + m - 1))), some (.int (Int32.ofInt (B : Int))), x, x20, x21, x22, none, none, none, none, none], [], h) φ) : ∀ (n k b : Nat), k + n = 9 → b < 9 → fd_i (bz_g ZZ) k n b = B → yy_fin X 298 (547, [some (.ref 1), some (.ref w), some (.ref 0), some (.int (Int32.ofInt fr)), some (.int (Int32.ofInt (t : Int))), some (.int (Int32.ofInt day)), some (.int (Int32.ofInt m)), some (.int (Int32.ofInt hr)), some (.int (Int32.ofInt nx)), some (.int (Int32.ofInt WK)), some (.ref b10), some (.ref b11), some (.int (Int32.ofInt GS)), some (.int (Int32.ofInt GT)), some (.int (Int32.ofInt GO)), some (.int (Int32.ofInt TT)), some (.ref b16), some (.int (Int32.ofInt (day + m - 1))), some (.int (Int32.ofInt (b : Int))), some (.int (Int32.ofInt (k : Int))), x20, x21, x22, none, none, none, none, none], [], h) φ
  | 0, k, b, hk, hb, eB => by
    have eB : b = B := eB
    subst eB
    refine yy_fin.steps (n := 2) (s' := (551, [some (.ref 1), some (.ref w), some (.ref 0), some (.int (Int32.ofInt fr)), some (.int (Int32.ofInt (t : Int))), some (.int (Int32.ofInt day)), some (.int (Int32.ofInt m)), some (.int (Int32.ofInt hr)), some (.int (Int32.ofInt nx)), some (.int (Int32.ofInt WK)), some (.ref b10), some (.ref b11), some (.int (Int32.ofInt GS)), some (.int (Int32.ofInt GT)), some (.int (Int32.ofInt GO)), some (.int (Int32.ofInt TT)), some (.ref b16), some (.int (Int32.ofInt (day + m - 1))), some (.int (Int32.ofInt (b : Int))), some (.int (Int32.ofInt (k : Int))), x20, x21, x22, none, none, none, none, none], [.int (Int32.ofInt 9), .int (Int32.ofInt (k : Int))], h)) rfl ?_
    refine yy_fin.ic rfl (fun cq => ?_) (fun cq => absurd ((yi_c_ge (a := (k : Int)) (b := 9) (by omega) (by omega)).mpr (by omega)) cq)
    have cq := (yi_c_ge (a := (k : Int)) (b := 9) (by omega) (by omega)).mp cq
    exact kk _
  | n + 1, k, b, hk, hb, eB => by
    have z1 := hz k
    have z2 := hz b
    refine yy_fin.steps (n := 2) (s' := (551, [some (.ref 1), some (.ref w), some (.ref 0), some (.int (Int32.ofInt fr)), some (.int (Int32.ofInt (t : Int))), some (.int (Int32.ofInt day)), some (.int (Int32.ofInt m)), some (.int (Int32.ofInt hr)), some (.int (Int32.ofInt nx)), some (.int (Int32.ofInt WK)), some (.ref b10), some (.ref b11), some (.int (Int32.ofInt GS)), some (.int (Int32.ofInt GT)), some (.int (Int32.ofInt GO)), some (.int (Int32.ofInt TT)), some (.ref b16), some (.int (Int32.ofInt (day + m - 1))), some (.int (Int32.ofInt (b : Int))), some (.int (Int32.ofInt (k : Int))), x20, x21, x22, none, none, none, none, none], [.int (Int32.ofInt 9), .int (Int32.ofInt (k : Int))], h)) rfl ?_
    refine yy_fin.ic rfl (fun cq => absurd ((yi_c_ge (a := (k : Int)) (b := 9) (by omega) (by omega)).mp cq) (by omega)) (fun cq => ?_)
    have cq := mt (yi_c_ge (a := (k : Int)) (b := 9) (by omega) (by omega)).mpr cq
    refine yy_fin.steps (n := 2) (s' := (558, [some (.ref 1), some (.ref w), some (.ref 0), some (.int (Int32.ofInt fr)), some (.int (Int32.ofInt (t : Int))), some (.int (Int32.ofInt day)), some (.int (Int32.ofInt m)), some (.int (Int32.ofInt hr)), some (.int (Int32.ofInt nx)), some (.int (Int32.ofInt WK)), some (.ref b10), some (.ref b11), some (.int (Int32.ofInt GS)), some (.int (Int32.ofInt GT)), some (.int (Int32.ofInt GO)), some (.int (Int32.ofInt TT)), some (.ref b16), some (.int (Int32.ofInt (day + m - 1))), some (.int (Int32.ofInt (b : Int))), some (.int (Int32.ofInt (k : Int))), x20, x21, x22, none, none, none, none, none], [.int (Int32.ofInt (k : Int)), .ref b16], h)) rfl ?_
    refine yy_fin.lp rfl O16.2 (by rw [y_9_len]; exact yi_inb (a := (k : Int)) (by omega) (by omega) (by omega)) ((yi_cl (a := (k : Int)) (by omega)).trans (Int.toNat_natCast k)) (y_9_at (by omega)) ?_
    refine yy_fin.steps (n := 2) (s' := (563, [some (.ref 1), some (.ref w), some (.ref 0), some (.int (Int32.ofInt fr)), some (.int (Int32.ofInt (t : Int))), some (.int (Int32.ofInt day)), some (.int (Int32.ofInt m)), some (.int (Int32.ofInt hr)), some (.int (Int32.ofInt nx)), some (.int (Int32.ofInt WK)), some (.ref b10), some (.ref b11), some (.int (Int32.ofInt GS)), some (.int (Int32.ofInt GT)), some (.int (Int32.ofInt GO)), some (.int (Int32.ofInt TT)), some (.ref b16), some (.int (Int32.ofInt (day + m - 1))), some (.int (Int32.ofInt (b : Int))), some (.int (Int32.ofInt (k : Int))), x20, x21, x22, none, none, none, none, none], [.int (Int32.ofInt (b : Int)), .ref b16, .int (Int32.ofInt (ZZ k))], h)) rfl ?_
    refine yy_fin.lp rfl O16.2 (by rw [y_9_len]; exact yi_inb (a := (b : Int)) (by omega) (by omega) (by omega)) ((yi_cl (a := (b : Int)) (by omega)).trans (Int.toNat_natCast b)) (y_9_at (by omega)) ?_
    refine yy_fin.ic rfl (fun c101 => ?_) (fun c101 => ?_)
    · have c101 := (yi_c_le (a := ZZ k) (b := ZZ b) (by omega) (by omega)).mp c101
      refine yy_fin.steps (n := 4) (s' := (547, [some (.ref 1), some (.ref w), some (.ref 0), some (.int (Int32.ofInt fr)), some (.int (Int32.ofInt (t : Int))), some (.int (Int32.ofInt day)), some (.int (Int32.ofInt m)), some (.int (Int32.ofInt hr)), some (.int (Int32.ofInt nx)), some (.int (Int32.ofInt WK)), some (.ref b10), some (.ref b11), some (.int (Int32.ofInt GS)), some (.int (Int32.ofInt GT)), some (.int (Int32.ofInt GO)), some (.int (Int32.ofInt TT)), some (.ref b16), some (.int (Int32.ofInt (day + m - 1))), some (.int (Int32.ofInt (b : Int))), some (.int ((Int32.ofInt (k : Int)) + (Int32.ofInt 1))), x20, x21, x22, none, none, none, none, none], [], h)) rfl ?_
      rw [yi_add (k : Int) 1]
      rw [show (k : Int) + 1 = ((k + 1 : Nat) : Int) by omega]
      exact yl_lg O16 hz kk n (k + 1) b (by omega) (by omega) (by rw [← eB, fd_i_c]; unfold bz_g; rw [if_pos (by omega)])
    · have c101 := mt (yi_c_le (a := ZZ k) (b := ZZ b) (by omega) (by omega)).mpr c101
      refine yy_fin.steps (n := 5) (s' := (547, [some (.ref 1), some (.ref w), some (.ref 0), some (.int (Int32.ofInt fr)), some (.int (Int32.ofInt (t : Int))), some (.int (Int32.ofInt day)), some (.int (Int32.ofInt m)), some (.int (Int32.ofInt hr)), some (.int (Int32.ofInt nx)), some (.int (Int32.ofInt WK)), some (.ref b10), some (.ref b11), some (.int (Int32.ofInt GS)), some (.int (Int32.ofInt GT)), some (.int (Int32.ofInt GO)), some (.int (Int32.ofInt TT)), some (.ref b16), some (.int (Int32.ofInt (day + m - 1))), some (.int (Int32.ofInt (k : Int))), some (.int ((Int32.ofInt (k : Int)) + (Int32.ofInt 1))), x20, x21, x22, none, none, none, none, none], [], h)) rfl ?_
      rw [yi_add (k : Int) 1]
      rw [show (k : Int) + 1 = ((k + 1 : Nat) : Int) by omega]
      exact yl_lg O16 hz kk n (k + 1) k (by omega) (by omega) (by rw [← eB, fd_i_c]; unfold bz_g; rw [if_neg (by omega)])
theorem yl_lf (F : yCf own w lst g0) (ht : (t : Int) < (g0 541 0).toInt) (hd : 0 ≤ day ∧ day ≤ 35999) (M : yMo own w h0.1.1) (hm : 1 ≤ m ∧ m ≤ 25) (hhr : 0 ≤ hr ∧ hr ≤ 11) (hnx : hr + 1 ≤ nx ∧ nx ≤ 12) {b10 b11 b16 a e : Nat} {WK P0 P1 P2 GS GT GO TT : Int} {l11 : List Int32} {ZZ : Nat → Int} {d' : Int} {x18 x19 x20 x21 x22 : Option Value} (hWK : WK = sm_i (ww_d (g0 541) t hr nx) day.toNat m.toNat) (hP0 : P0 = (fd_i (bs_f (g0 541) t hr 0) day.toNat m.toNat (-2, 0)).1) (hP1 : P1 = (fd_i (bs_f (g0 541) t hr 1) day.toNat m.toNat (-2, 0)).1) (hP2 : P2 = (fd_i (bs_f (g0 541) t hr 2) day.toNat m.toNat (-2, 0)).1) (hG : fd_i (gr_f (g0 541) t) day.toNat m.toNat (0, -1000000, -2) = (GS, GT, GO)) (hT : TT = fd_i (tt_f (g0 541) t lst) day.toNat m.toNat 0) (hZZ : ∀ q, ZZ q = fd_i (bz_f (g0 541) t lst q) day.toNat m.toNat 0) (C : yCx own w lst g0 h g) (Y : yx (yAk w) a e h0 h) (O10 : yRm h0 h w b10 [Int32.ofInt P0, Int32.ofInt P1, Int32.ofInt P2]) (O16 : yRm h0 h w b16 (y_9 ZZ)) (kk : ∀ h' g' B x19, yCx own w lst g0 h' g' → yx (yAk w) a e h0 h' → yy_fin X 298 (631, [some (.ref 1), some (.ref w), some (.ref 0), some (.int (Int32.ofInt fr)), some (.int (Int32.ofInt (t : Int))), some (.int (Int32.ofInt day)), some (.int (Int32.ofInt m)), some (.int (Int32.ofInt hr)), some (.int (Int32.ofInt nx)), some (.int (Int32.ofInt WK)), some (.ref b10), some (.ref b11), some (.int (Int32.ofInt GS)), some (.int (Int32.ofInt GT)), some (.int (Int32.ofInt GO)), some (.int (Int32.ofInt TT)), some (.ref b16), some (.int (Int32.ofInt (day + m - 1))), some (.int (Int32.ofInt B)), x19, x20, x21, x22, none, none, none, none, none], [], h') φ) : yy_fin X 298 (396, [some (.ref 1), some (.ref w), some (.ref 0), some (.int (Int32.ofInt fr)), some (.int (Int32.ofInt (t : Int))), some (.int (Int32.ofInt day)), some (.int (Int32.ofInt m)), some (.int (Int32.ofInt hr)), some (.int (Int32.ofInt nx)), some (.int (Int32.ofInt WK)), some (.ref b10), some (.ref b11), some (.int (Int32.ofInt GS)), some (.int (Int32.ofInt GT)), some (.int (Int32.ofInt GO)), some (.int (Int32.ofInt TT)), some (.ref b16), some (.int (Int32.ofInt d')), x18, x19, x20, x21, x22, none, none, none, none, none], [], h) φ := by
  have n4 := F.2.2.2.1
  have hq := F.2.2.2.2.1
  have hY := Y.1
  have hg := C.2.1.2
  have l8 := F.2.2.1.2.1
  have hz : ∀ q, 0 ≤ ZZ q ∧ ZZ q ≤ 10000 := fun q => by rw [hZZ]; have := bz_f_b (a := g0 541) (lst := lst) (t := t) F.2.2.1 q m.toNat day.toNat 0 (Int.le_refl 0); omega
  have h8 : ZZ 8 = 0 := by rw [hZZ]; exact fd_out _ _ _ fun q _ s => bz_8 F.2.2.2 ht F.2.2.1 s
  have ey : y_bz (g0 541) t lst day m = ZZ := funext fun q => (hZZ q).symm
  refine yy_fin.steps (n := 5) (s' := (403, [some (.ref 1), some (.ref w), some (.ref 0), some (.int (Int32.ofInt fr)), some (.int (Int32.ofInt (t : Int))), some (.int (Int32.ofInt day)), some (.int (Int32.ofInt m)), some (.int (Int32.ofInt hr)), some (.int (Int32.ofInt nx)), some (.int (Int32.ofInt WK)), some (.ref b10), some (.ref b11), some (.int (Int32.ofInt GS)), some (.int (Int32.ofInt GT)), some (.int (Int32.ofInt GO)), some (.int (Int32.ofInt TT)), some (.ref b16), some (.int (Int32.ofInt d')), x18, x19, x20, x21, x22, none, none, none, none, none], [.int (((Int32.ofInt day) + (Int32.ofInt m)) - (Int32.ofInt 1))], h)) rfl ?_
  rw [yi_add day m]
  rw [yi_sub (day + m) 1]
  rw [show (day + m) - 1 = day + m - 1 by omega]
  refine yy_fin.steps (n := 7) (s' := (416, [some (.ref 1), some (.ref w), some (.ref 0), some (.int (Int32.ofInt fr)), some (.int (Int32.ofInt (t : Int))), some (.int (Int32.ofInt day)), some (.int (Int32.ofInt m)), some (.int (Int32.ofInt hr)), some (.int (Int32.ofInt nx)), some (.int (Int32.ofInt WK)), some (.ref b10), some (.ref b11), some (.int (Int32.ofInt GS)), some (.int (Int32.ofInt GT)), some (.int (Int32.ofInt GO)), some (.int (Int32.ofInt TT)), some (.ref b16), some (.int (Int32.ofInt (day + m - 1))), x18, x19, x20, x21, x22, none, none, none, none, none], [.int (Int32.ofInt nx), .int (Int32.ofInt hr), .int (Int32.ofInt (day + m - 1)), .int (Int32.ofInt day), .int (Int32.ofInt (t : Int)), .ref 1], h)) rfl ?_
  obtain ⟨g101, r101⟩ := qi_121 F C ht (day := day) (d2 := day + m - 1) (n := hr) (m := nx) (by omega) (by omega) (by omega) (by omega)
  obtain ⟨fs101, oo101⟩ := C.o
  refine yy_fin.cv (as := [.int (Int32.ofInt (t : Int)), .int (Int32.ofInt day), .int (Int32.ofInt (day + m - 1)), .int (Int32.ofInt hr), .int (Int32.ofInt nx)]) rfl rfl rfl oo101 (Nat.le_of_ble_eq_true rfl) (Nat.le_of_ble_eq_true rfl) r101 ?_
  rintro v h101 ⟨rfl, C, x101⟩
  replace O10 := O10.k x101
  replace O16 := O16.k x101
  have hx101 := x101.1
  replace Y := Y.tr x101 (fun _ _ e => e)
  replace hY := Y.1
  refine yy_fin.steps (n := 2) (s' := (423, [some (.ref 1), some (.ref w), some (.ref 0), some (.int (Int32.ofInt fr)), some (.int (Int32.ofInt (t : Int))), some (.int (Int32.ofInt day)), some (.int (Int32.ofInt m)), some (.int (Int32.ofInt hr)), some (.int (Int32.ofInt nx)), some (.int (Int32.ofInt WK)), some (.ref b10), some (.ref b11), some (.int (Int32.ofInt GS)), some (.int (Int32.ofInt GT)), some (.int (Int32.ofInt GO)), some (.int (Int32.ofInt TT)), some (.ref b16), some (.int (Int32.ofInt (day + m - 1))), x18, x19, x20, x21, x22, none, none, none, none, none], [.int (Int32.ofInt 35999), .int (Int32.ofInt (day + m - 1)), .int (Int32.ofInt (if ¬ (0 ≤ day ∧ day ≤ 35999) ∨ ¬ (0 ≤ day + m - 1 ∧ day + m - 1 ≤ 35999) ∨ ¬ (day ≤ day + m - 1 ∧ day + m - 1 ≤ day + 359) ∨ ¬ (0 ≤ hr ∧ hr < nx ∧ nx ≤ 12) then -1 else sm_i (ww_d (g0 541) t hr nx) day.toNat ((day + m - 1).toNat + 1 - day.toNat)))], h101)) rfl ?_
  suffices J102 : ∀ v102 : Int, v102 = (if 35999 < day + m - 1 then -1 else WK) → yy_fin X 298 (432, [some (.ref 1), some (.ref w), some (.ref 0), some (.int (Int32.ofInt fr)), some (.int (Int32.ofInt (t : Int))), some (.int (Int32.ofInt day)), some (.int (Int32.ofInt m)), some (.int (Int32.ofInt hr)), some (.int (Int32.ofInt nx)), some (.int (Int32.ofInt WK)), some (.ref b10), some (.ref b11), some (.int (Int32.ofInt GS)), some (.int (Int32.ofInt GT)), some (.int (Int32.ofInt GO)), some (.int (Int32.ofInt TT)), some (.ref b16), some (.int (Int32.ofInt (day + m - 1))), x18, x19, x20, x21, x22, none, none, none, none, none], [.int (Int32.ofInt v102), .int (Int32.ofInt (if ¬ (0 ≤ day ∧ day ≤ 35999) ∨ ¬ (0 ≤ day + m - 1 ∧ day + m - 1 ≤ 35999) ∨ ¬ (day ≤ day + m - 1 ∧ day + m - 1 ≤ day + 359) ∨ ¬ (0 ≤ hr ∧ hr < nx ∧ nx ≤ 12) then -1 else sm_i (ww_d (g0 541) t hr nx) day.toNat ((day + m - 1).toNat + 1 - day.toNat)))], h101) φ by
    refine yy_fin.ic rfl (fun c103 => ?_) (fun c103 => ?_)
    · have c103 := (yi_c_le (a := (day + m - 1)) (b := 35999) (by omega) (by omega)).mp c103
      refine yy_fin.steps (n := 1) (s' := (432, [some (.ref 1), some (.ref w), some (.ref 0), some (.int (Int32.ofInt fr)), some (.int (Int32.ofInt (t : Int))), some (.int (Int32.ofInt day)), some (.int (Int32.ofInt m)), some (.int (Int32.ofInt hr)), some (.int (Int32.ofInt nx)), some (.int (Int32.ofInt WK)), some (.ref b10), some (.ref b11), some (.int (Int32.ofInt GS)), some (.int (Int32.ofInt GT)), some (.int (Int32.ofInt GO)), some (.int (Int32.ofInt TT)), some (.ref b16), some (.int (Int32.ofInt (day + m - 1))), x18, x19, x20, x21, x22, none, none, none, none, none], [.int (Int32.ofInt WK), .int (Int32.ofInt (if ¬ (0 ≤ day ∧ day ≤ 35999) ∨ ¬ (0 ≤ day + m - 1 ∧ day + m - 1 ≤ 35999) ∨ ¬ (day ≤ day + m - 1 ∧ day + m - 1 ≤ day + 359) ∨ ¬ (0 ≤ hr ∧ hr < nx ∧ nx ≤ 12) then -1 else sm_i (ww_d (g0 541) t hr nx) day.toNat ((day + m - 1).toNat + 1 - day.toNat)))], h101)) rfl ?_
      exact J102 (WK) (by rw [if_neg (by omega)])
    · have c103 := mt (yi_c_le (a := (day + m - 1)) (b := 35999) (by omega) (by omega)).mpr c103
      refine yy_fin.steps (n := 2) (s' := (432, [some (.ref 1), some (.ref w), some (.ref 0), some (.int (Int32.ofInt fr)), some (.int (Int32.ofInt (t : Int))), some (.int (Int32.ofInt day)), some (.int (Int32.ofInt m)), some (.int (Int32.ofInt hr)), some (.int (Int32.ofInt nx)), some (.int (Int32.ofInt WK)), some (.ref b10), some (.ref b11), some (.int (Int32.ofInt GS)), some (.int (Int32.ofInt GT)), some (.int (Int32.ofInt GO)), some (.int (Int32.ofInt TT)), some (.ref b16), some (.int (Int32.ofInt (day + m - 1))), x18, x19, x20, x21, x22, none, none, none, none, none], [.int (Int32.ofInt (-1)), .int (Int32.ofInt (if ¬ (0 ≤ day ∧ day ≤ 35999) ∨ ¬ (0 ≤ day + m - 1 ∧ day + m - 1 ≤ 35999) ∨ ¬ (day ≤ day + m - 1 ∧ day + m - 1 ≤ day + 359) ∨ ¬ (0 ≤ hr ∧ hr < nx ∧ nx ≤ 12) then -1 else sm_i (ww_d (g0 541) t hr nx) day.toNat ((day + m - 1).toNat + 1 - day.toNat)))], h101)) rfl ?_
      exact J102 (-1) (by rw [if_pos (by omega)])
  intro v102 ev102
  have q432 : (if ¬ (0 ≤ day ∧ day ≤ 35999) ∨ ¬ (0 ≤ day + m - 1 ∧ day + m - 1 ≤ 35999) ∨ ¬ (day ≤ day + m - 1 ∧ day + m - 1 ≤ day + 359) ∨ ¬ (0 ≤ hr ∧ hr < nx ∧ nx ≤ 12) then -1 else sm_i (ww_d (g0 541) t hr nx) day.toNat ((day + m - 1).toNat + 1 - day.toNat)) = v102 := by
    rw [ev102]
    by_cases c : 35999 < day + m - 1
    · rw [if_pos (by omega), if_pos c]
    · rw [if_neg (by omega), if_neg c, hWK, show (day + m - 1).toNat + 1 - day.toNat = m.toNat by omega]
  refine yy_fin.ic rfl (fun _ => ?_) (fun cz => absurd (y_ceq (congrArg Int32.ofInt q432)) cz)
  refine yy_fin.steps (n := 4) (s' := (443, [some (.ref 1), some (.ref w), some (.ref 0), some (.int (Int32.ofInt fr)), some (.int (Int32.ofInt (t : Int))), some (.int (Int32.ofInt day)), some (.int (Int32.ofInt m)), some (.int (Int32.ofInt hr)), some (.int (Int32.ofInt nx)), some (.int (Int32.ofInt WK)), some (.ref b10), some (.ref b11), some (.int (Int32.ofInt GS)), some (.int (Int32.ofInt GT)), some (.int (Int32.ofInt GO)), some (.int (Int32.ofInt TT)), some (.ref b16), some (.int (Int32.ofInt (day + m - 1))), some (.int (Int32.ofInt 0)), x19, x20, x21, x22, none, none, none, none, none], [.int (Int32.ofInt 3), .int (Int32.ofInt 0)], h101)) rfl ?_
  refine yy_fin.ic rfl (fun cK => absurd cK (by decide)) (fun cK => ?_)
  refine yy_fin.steps (n := 6) (s' := (457, [some (.ref 1), some (.ref w), some (.ref 0), some (.int (Int32.ofInt fr)), some (.int (Int32.ofInt (t : Int))), some (.int (Int32.ofInt day)), some (.int (Int32.ofInt m)), some (.int (Int32.ofInt hr)), some (.int (Int32.ofInt nx)), some (.int (Int32.ofInt WK)), some (.ref b10), some (.ref b11), some (.int (Int32.ofInt GS)), some (.int (Int32.ofInt GT)), some (.int (Int32.ofInt GO)), some (.int (Int32.ofInt TT)), some (.ref b16), some (.int (Int32.ofInt (day + m - 1))), some (.int (Int32.ofInt 0)), x19, x20, x21, x22, none, none, none, none, none], [.int (Int32.ofInt 0), .int (Int32.ofInt hr), .int (Int32.ofInt m), .int (Int32.ofInt day), .int (Int32.ofInt (t : Int)), .ref 1], h101)) rfl ?_
  obtain ⟨g104, r104⟩ := qi_124 F C ht hd (many := m) (hour := hr) (i := 0) (by omega) hhr (by omega)
  obtain ⟨fs104, oo104⟩ := C.o
  refine yy_fin.cv (as := [.int (Int32.ofInt (t : Int)), .int (Int32.ofInt day), .int (Int32.ofInt m), .int (Int32.ofInt hr), .int (Int32.ofInt 0)]) rfl rfl rfl oo104 (Nat.le_of_ble_eq_true rfl) (Nat.le_of_ble_eq_true rfl) r104 ?_
  rintro v h104 ⟨rfl, C, x104⟩
  replace O10 := O10.k x104
  replace O16 := O16.k x104
  have hx104 := x104.1
  replace Y := Y.tr x104 (fun _ _ e => e)
  replace hY := Y.1
  refine yy_fin.steps (n := 2) (s' := (464, [some (.ref 1), some (.ref w), some (.ref 0), some (.int (Int32.ofInt fr)), some (.int (Int32.ofInt (t : Int))), some (.int (Int32.ofInt day)), some (.int (Int32.ofInt m)), some (.int (Int32.ofInt hr)), some (.int (Int32.ofInt nx)), some (.int (Int32.ofInt WK)), some (.ref b10), some (.ref b11), some (.int (Int32.ofInt GS)), some (.int (Int32.ofInt GT)), some (.int (Int32.ofInt GO)), some (.int (Int32.ofInt TT)), some (.ref b16), some (.int (Int32.ofInt (day + m - 1))), some (.int (Int32.ofInt 0)), x19, x20, x21, x22, none, none, none, none, none], [.int (Int32.ofInt 0), .ref b10, .int (Int32.ofInt ((fd_i (bs_f (g0 541) t hr 0) day.toNat m.toNat (-2, 0)).1))], h104)) rfl ?_
  refine yy_fin.lp (j := 0) rfl O10.2 rfl (by decide) rfl ?_
  refine yy_fin.ic rfl (fun _ => ?_) (fun cz => absurd (y_ceq (congrArg Int32.ofInt hP0.symm)) cz)
  refine yy_fin.steps (n := 4) (s' := (443, [some (.ref 1), some (.ref w), some (.ref 0), some (.int (Int32.ofInt fr)), some (.int (Int32.ofInt (t : Int))), some (.int (Int32.ofInt day)), some (.int (Int32.ofInt m)), some (.int (Int32.ofInt hr)), some (.int (Int32.ofInt nx)), some (.int (Int32.ofInt WK)), some (.ref b10), some (.ref b11), some (.int (Int32.ofInt GS)), some (.int (Int32.ofInt GT)), some (.int (Int32.ofInt GO)), some (.int (Int32.ofInt TT)), some (.ref b16), some (.int (Int32.ofInt (day + m - 1))), some (.int ((Int32.ofInt 0) + (Int32.ofInt 1))), x19, x20, x21, x22, none, none, none, none, none], [.int (Int32.ofInt 3), .int ((Int32.ofInt 0) + (Int32.ofInt 1))], h104)) rfl ?_
  rw [show (Int32.ofInt 0) + (Int32.ofInt 1) = Int32.ofInt 1 from by decide]
  refine yy_fin.ic rfl (fun cK => absurd cK (by decide)) (fun cK => ?_)
  refine yy_fin.steps (n := 6) (s' := (457, [some (.ref 1), some (.ref w), some (.ref 0), some (.int (Int32.ofInt fr)), some (.int (Int32.ofInt (t : Int))), some (.int (Int32.ofInt day)), some (.int (Int32.ofInt m)), some (.int (Int32.ofInt hr)), some (.int (Int32.ofInt nx)), some (.int (Int32.ofInt WK)), some (.ref b10), some (.ref b11), some (.int (Int32.ofInt GS)), some (.int (Int32.ofInt GT)), some (.int (Int32.ofInt GO)), some (.int (Int32.ofInt TT)), some (.ref b16), some (.int (Int32.ofInt (day + m - 1))), some (.int (Int32.ofInt 1)), x19, x20, x21, x22, none, none, none, none, none], [.int (Int32.ofInt 1), .int (Int32.ofInt hr), .int (Int32.ofInt m), .int (Int32.ofInt day), .int (Int32.ofInt (t : Int)), .ref 1], h104)) rfl ?_
  obtain ⟨g105, r105⟩ := qi_124 F C ht hd (many := m) (hour := hr) (i := 1) (by omega) hhr (by omega)
  obtain ⟨fs105, oo105⟩ := C.o
  refine yy_fin.cv (as := [.int (Int32.ofInt (t : Int)), .int (Int32.ofInt day), .int (Int32.ofInt m), .int (Int32.ofInt hr), .int (Int32.ofInt 1)]) rfl rfl rfl oo105 (Nat.le_of_ble_eq_true rfl) (Nat.le_of_ble_eq_true rfl) r105 ?_
  rintro v h105 ⟨rfl, C, x105⟩
  replace O10 := O10.k x105
  replace O16 := O16.k x105
  have hx105 := x105.1
  replace Y := Y.tr x105 (fun _ _ e => e)
  replace hY := Y.1
  refine yy_fin.steps (n := 2) (s' := (464, [some (.ref 1), some (.ref w), some (.ref 0), some (.int (Int32.ofInt fr)), some (.int (Int32.ofInt (t : Int))), some (.int (Int32.ofInt day)), some (.int (Int32.ofInt m)), some (.int (Int32.ofInt hr)), some (.int (Int32.ofInt nx)), some (.int (Int32.ofInt WK)), some (.ref b10), some (.ref b11), some (.int (Int32.ofInt GS)), some (.int (Int32.ofInt GT)), some (.int (Int32.ofInt GO)), some (.int (Int32.ofInt TT)), some (.ref b16), some (.int (Int32.ofInt (day + m - 1))), some (.int (Int32.ofInt 1)), x19, x20, x21, x22, none, none, none, none, none], [.int (Int32.ofInt 1), .ref b10, .int (Int32.ofInt ((fd_i (bs_f (g0 541) t hr 1) day.toNat m.toNat (-2, 0)).1))], h105)) rfl ?_
  refine yy_fin.lp (j := 1) rfl O10.2 rfl (by decide) rfl ?_
  refine yy_fin.ic rfl (fun _ => ?_) (fun cz => absurd (y_ceq (congrArg Int32.ofInt hP1.symm)) cz)
  refine yy_fin.steps (n := 4) (s' := (443, [some (.ref 1), some (.ref w), some (.ref 0), some (.int (Int32.ofInt fr)), some (.int (Int32.ofInt (t : Int))), some (.int (Int32.ofInt day)), some (.int (Int32.ofInt m)), some (.int (Int32.ofInt hr)), some (.int (Int32.ofInt nx)), some (.int (Int32.ofInt WK)), some (.ref b10), some (.ref b11), some (.int (Int32.ofInt GS)), some (.int (Int32.ofInt GT)), some (.int (Int32.ofInt GO)), some (.int (Int32.ofInt TT)), some (.ref b16), some (.int (Int32.ofInt (day + m - 1))), some (.int ((Int32.ofInt 1) + (Int32.ofInt 1))), x19, x20, x21, x22, none, none, none, none, none], [.int (Int32.ofInt 3), .int ((Int32.ofInt 1) + (Int32.ofInt 1))], h105)) rfl ?_
  rw [show (Int32.ofInt 1) + (Int32.ofInt 1) = Int32.ofInt 2 from by decide]
  refine yy_fin.ic rfl (fun cK => absurd cK (by decide)) (fun cK => ?_)
  refine yy_fin.steps (n := 6) (s' := (457, [some (.ref 1), some (.ref w), some (.ref 0), some (.int (Int32.ofInt fr)), some (.int (Int32.ofInt (t : Int))), some (.int (Int32.ofInt day)), some (.int (Int32.ofInt m)), some (.int (Int32.ofInt hr)), some (.int (Int32.ofInt nx)), some (.int (Int32.ofInt WK)), some (.ref b10), some (.ref b11), some (.int (Int32.ofInt GS)), some (.int (Int32.ofInt GT)), some (.int (Int32.ofInt GO)), some (.int (Int32.ofInt TT)), some (.ref b16), some (.int (Int32.ofInt (day + m - 1))), some (.int (Int32.ofInt 2)), x19, x20, x21, x22, none, none, none, none, none], [.int (Int32.ofInt 2), .int (Int32.ofInt hr), .int (Int32.ofInt m), .int (Int32.ofInt day), .int (Int32.ofInt (t : Int)), .ref 1], h105)) rfl ?_
  obtain ⟨g106, r106⟩ := qi_124 F C ht hd (many := m) (hour := hr) (i := 2) (by omega) hhr (by omega)
  obtain ⟨fs106, oo106⟩ := C.o
  refine yy_fin.cv (as := [.int (Int32.ofInt (t : Int)), .int (Int32.ofInt day), .int (Int32.ofInt m), .int (Int32.ofInt hr), .int (Int32.ofInt 2)]) rfl rfl rfl oo106 (Nat.le_of_ble_eq_true rfl) (Nat.le_of_ble_eq_true rfl) r106 ?_
  rintro v h106 ⟨rfl, C, x106⟩
  replace O10 := O10.k x106
  replace O16 := O16.k x106
  have hx106 := x106.1
  replace Y := Y.tr x106 (fun _ _ e => e)
  replace hY := Y.1
  refine yy_fin.steps (n := 2) (s' := (464, [some (.ref 1), some (.ref w), some (.ref 0), some (.int (Int32.ofInt fr)), some (.int (Int32.ofInt (t : Int))), some (.int (Int32.ofInt day)), some (.int (Int32.ofInt m)), some (.int (Int32.ofInt hr)), some (.int (Int32.ofInt nx)), some (.int (Int32.ofInt WK)), some (.ref b10), some (.ref b11), some (.int (Int32.ofInt GS)), some (.int (Int32.ofInt GT)), some (.int (Int32.ofInt GO)), some (.int (Int32.ofInt TT)), some (.ref b16), some (.int (Int32.ofInt (day + m - 1))), some (.int (Int32.ofInt 2)), x19, x20, x21, x22, none, none, none, none, none], [.int (Int32.ofInt 2), .ref b10, .int (Int32.ofInt ((fd_i (bs_f (g0 541) t hr 2) day.toNat m.toNat (-2, 0)).1))], h106)) rfl ?_
  refine yy_fin.lp (j := 2) rfl O10.2 rfl (by decide) rfl ?_
  refine yy_fin.ic rfl (fun _ => ?_) (fun cz => absurd (y_ceq (congrArg Int32.ofInt hP2.symm)) cz)
  refine yy_fin.steps (n := 4) (s' := (443, [some (.ref 1), some (.ref w), some (.ref 0), some (.int (Int32.ofInt fr)), some (.int (Int32.ofInt (t : Int))), some (.int (Int32.ofInt day)), some (.int (Int32.ofInt m)), some (.int (Int32.ofInt hr)), some (.int (Int32.ofInt nx)), some (.int (Int32.ofInt WK)), some (.ref b10), some (.ref b11), some (.int (Int32.ofInt GS)), some (.int (Int32.ofInt GT)), some (.int (Int32.ofInt GO)), some (.int (Int32.ofInt TT)), some (.ref b16), some (.int (Int32.ofInt (day + m - 1))), some (.int ((Int32.ofInt 2) + (Int32.ofInt 1))), x19, x20, x21, x22, none, none, none, none, none], [.int (Int32.ofInt 3), .int ((Int32.ofInt 2) + (Int32.ofInt 1))], h106)) rfl ?_
  rw [show (Int32.ofInt 2) + (Int32.ofInt 1) = Int32.ofInt 3 from by decide]
  refine yy_fin.ic rfl (fun cK => ?_) (fun cK => absurd (by decide) cK)
  refine yy_fin.steps (n := 5) (s' := (484, [some (.ref 1), some (.ref w), some (.ref 0), some (.int (Int32.ofInt fr)), some (.int (Int32.ofInt (t : Int))), some (.int (Int32.ofInt day)), some (.int (Int32.ofInt m)), some (.int (Int32.ofInt hr)), some (.int (Int32.ofInt nx)), some (.int (Int32.ofInt WK)), some (.ref b10), some (.ref b11), some (.int (Int32.ofInt GS)), some (.int (Int32.ofInt GT)), some (.int (Int32.ofInt GO)), some (.int (Int32.ofInt TT)), some (.ref b16), some (.int (Int32.ofInt (day + m - 1))), some (.int (Int32.ofInt 3)), x19, x20, x21, x22, none, none, none, none, none], [.int (Int32.ofInt 0), .int (Int32.ofInt m), .int (Int32.ofInt day), .int (Int32.ofInt (t : Int)), .ref 1], h106)) rfl ?_
  obtain ⟨g107, r107⟩ := qi_128 F C ht hd (many := m) (i := 0) (by omega) (by omega)
  obtain ⟨fs107, oo107⟩ := C.o
  refine yy_fin.cv (as := [.int (Int32.ofInt (t : Int)), .int (Int32.ofInt day), .int (Int32.ofInt m), .int (Int32.ofInt 0)]) rfl rfl rfl oo107 (Nat.le_of_ble_eq_true rfl) (Nat.le_of_ble_eq_true rfl) r107 ?_
  rintro v h107 ⟨rfl, C, x107⟩
  replace O10 := O10.k x107
  replace O16 := O16.k x107
  have hx107 := x107.1
  replace Y := Y.tr x107 (fun _ _ e => e)
  replace hY := Y.1
  refine yy_fin.steps (n := 1) (s' := (489, [some (.ref 1), some (.ref w), some (.ref 0), some (.int (Int32.ofInt fr)), some (.int (Int32.ofInt (t : Int))), some (.int (Int32.ofInt day)), some (.int (Int32.ofInt m)), some (.int (Int32.ofInt hr)), some (.int (Int32.ofInt nx)), some (.int (Int32.ofInt WK)), some (.ref b10), some (.ref b11), some (.int (Int32.ofInt GS)), some (.int (Int32.ofInt GT)), some (.int (Int32.ofInt GO)), some (.int (Int32.ofInt TT)), some (.ref b16), some (.int (Int32.ofInt (day + m - 1))), some (.int (Int32.ofInt 3)), x19, x20, x21, x22, none, none, none, none, none], [.int (Int32.ofInt GS), .int (Int32.ofInt ((fun s : Int × Int × Int => if (0 : Int) = 0 then s.1 else if (0 : Int) = 1 then s.2.1 else s.2.2) (fd_i (gr_f (g0 541) t) day.toNat m.toNat (0, -1000000, -2))))], h107)) rfl ?_
  have q489 : ((fun s : Int × Int × Int => if (0 : Int) = 0 then s.1 else if (0 : Int) = 1 then s.2.1 else s.2.2) (fd_i (gr_f (g0 541) t) day.toNat m.toNat (0, -1000000, -2))) = GS := by rw [hG]; rfl
  refine yy_fin.ic rfl (fun cz => absurd (congrArg Int32.ofInt q489) (y_cne cz)) (fun _ => ?_)
  refine yy_fin.steps (n := 5) (s' := (500, [some (.ref 1), some (.ref w), some (.ref 0), some (.int (Int32.ofInt fr)), some (.int (Int32.ofInt (t : Int))), some (.int (Int32.ofInt day)), some (.int (Int32.ofInt m)), some (.int (Int32.ofInt hr)), some (.int (Int32.ofInt nx)), some (.int (Int32.ofInt WK)), some (.ref b10), some (.ref b11), some (.int (Int32.ofInt GS)), some (.int (Int32.ofInt GT)), some (.int (Int32.ofInt GO)), some (.int (Int32.ofInt TT)), some (.ref b16), some (.int (Int32.ofInt (day + m - 1))), some (.int (Int32.ofInt 3)), x19, x20, x21, x22, none, none, none, none, none], [.int (Int32.ofInt 1), .int (Int32.ofInt m), .int (Int32.ofInt day), .int (Int32.ofInt (t : Int)), .ref 1], h107)) rfl ?_
  obtain ⟨g108, r108⟩ := qi_128 F C ht hd (many := m) (i := 1) (by omega) (by omega)
  obtain ⟨fs108, oo108⟩ := C.o
  refine yy_fin.cv (as := [.int (Int32.ofInt (t : Int)), .int (Int32.ofInt day), .int (Int32.ofInt m), .int (Int32.ofInt 1)]) rfl rfl rfl oo108 (Nat.le_of_ble_eq_true rfl) (Nat.le_of_ble_eq_true rfl) r108 ?_
  rintro v h108 ⟨rfl, C, x108⟩
  replace O10 := O10.k x108
  replace O16 := O16.k x108
  have hx108 := x108.1
  replace Y := Y.tr x108 (fun _ _ e => e)
  replace hY := Y.1
  refine yy_fin.steps (n := 1) (s' := (505, [some (.ref 1), some (.ref w), some (.ref 0), some (.int (Int32.ofInt fr)), some (.int (Int32.ofInt (t : Int))), some (.int (Int32.ofInt day)), some (.int (Int32.ofInt m)), some (.int (Int32.ofInt hr)), some (.int (Int32.ofInt nx)), some (.int (Int32.ofInt WK)), some (.ref b10), some (.ref b11), some (.int (Int32.ofInt GS)), some (.int (Int32.ofInt GT)), some (.int (Int32.ofInt GO)), some (.int (Int32.ofInt TT)), some (.ref b16), some (.int (Int32.ofInt (day + m - 1))), some (.int (Int32.ofInt 3)), x19, x20, x21, x22, none, none, none, none, none], [.int (Int32.ofInt GT), .int (Int32.ofInt ((fun s : Int × Int × Int => if (1 : Int) = 0 then s.1 else if (1 : Int) = 1 then s.2.1 else s.2.2) (fd_i (gr_f (g0 541) t) day.toNat m.toNat (0, -1000000, -2))))], h108)) rfl ?_
  have q505 : ((fun s : Int × Int × Int => if (1 : Int) = 0 then s.1 else if (1 : Int) = 1 then s.2.1 else s.2.2) (fd_i (gr_f (g0 541) t) day.toNat m.toNat (0, -1000000, -2))) = GT := by rw [hG]; rfl
  refine yy_fin.ic rfl (fun cz => absurd (congrArg Int32.ofInt q505) (y_cne cz)) (fun _ => ?_)
  refine yy_fin.steps (n := 5) (s' := (516, [some (.ref 1), some (.ref w), some (.ref 0), some (.int (Int32.ofInt fr)), some (.int (Int32.ofInt (t : Int))), some (.int (Int32.ofInt day)), some (.int (Int32.ofInt m)), some (.int (Int32.ofInt hr)), some (.int (Int32.ofInt nx)), some (.int (Int32.ofInt WK)), some (.ref b10), some (.ref b11), some (.int (Int32.ofInt GS)), some (.int (Int32.ofInt GT)), some (.int (Int32.ofInt GO)), some (.int (Int32.ofInt TT)), some (.ref b16), some (.int (Int32.ofInt (day + m - 1))), some (.int (Int32.ofInt 3)), x19, x20, x21, x22, none, none, none, none, none], [.int (Int32.ofInt 2), .int (Int32.ofInt m), .int (Int32.ofInt day), .int (Int32.ofInt (t : Int)), .ref 1], h108)) rfl ?_
  obtain ⟨g109, r109⟩ := qi_128 F C ht hd (many := m) (i := 2) (by omega) (by omega)
  obtain ⟨fs109, oo109⟩ := C.o
  refine yy_fin.cv (as := [.int (Int32.ofInt (t : Int)), .int (Int32.ofInt day), .int (Int32.ofInt m), .int (Int32.ofInt 2)]) rfl rfl rfl oo109 (Nat.le_of_ble_eq_true rfl) (Nat.le_of_ble_eq_true rfl) r109 ?_
  rintro v h109 ⟨rfl, C, x109⟩
  replace O10 := O10.k x109
  replace O16 := O16.k x109
  have hx109 := x109.1
  replace Y := Y.tr x109 (fun _ _ e => e)
  replace hY := Y.1
  refine yy_fin.steps (n := 1) (s' := (521, [some (.ref 1), some (.ref w), some (.ref 0), some (.int (Int32.ofInt fr)), some (.int (Int32.ofInt (t : Int))), some (.int (Int32.ofInt day)), some (.int (Int32.ofInt m)), some (.int (Int32.ofInt hr)), some (.int (Int32.ofInt nx)), some (.int (Int32.ofInt WK)), some (.ref b10), some (.ref b11), some (.int (Int32.ofInt GS)), some (.int (Int32.ofInt GT)), some (.int (Int32.ofInt GO)), some (.int (Int32.ofInt TT)), some (.ref b16), some (.int (Int32.ofInt (day + m - 1))), some (.int (Int32.ofInt 3)), x19, x20, x21, x22, none, none, none, none, none], [.int (Int32.ofInt GO), .int (Int32.ofInt ((fun s : Int × Int × Int => if (2 : Int) = 0 then s.1 else if (2 : Int) = 1 then s.2.1 else s.2.2) (fd_i (gr_f (g0 541) t) day.toNat m.toNat (0, -1000000, -2))))], h109)) rfl ?_
  have q521 : ((fun s : Int × Int × Int => if (2 : Int) = 0 then s.1 else if (2 : Int) = 1 then s.2.1 else s.2.2) (fd_i (gr_f (g0 541) t) day.toNat m.toNat (0, -1000000, -2))) = GO := by rw [hG]; rfl
  refine yy_fin.ic rfl (fun cz => absurd (congrArg Int32.ofInt q521) (y_cne cz)) (fun _ => ?_)
  refine yy_fin.steps (n := 4) (s' := (531, [some (.ref 1), some (.ref w), some (.ref 0), some (.int (Int32.ofInt fr)), some (.int (Int32.ofInt (t : Int))), some (.int (Int32.ofInt day)), some (.int (Int32.ofInt m)), some (.int (Int32.ofInt hr)), some (.int (Int32.ofInt nx)), some (.int (Int32.ofInt WK)), some (.ref b10), some (.ref b11), some (.int (Int32.ofInt GS)), some (.int (Int32.ofInt GT)), some (.int (Int32.ofInt GO)), some (.int (Int32.ofInt TT)), some (.ref b16), some (.int (Int32.ofInt (day + m - 1))), some (.int (Int32.ofInt 3)), x19, x20, x21, x22, none, none, none, none, none], [.int (Int32.ofInt m), .int (Int32.ofInt day), .int (Int32.ofInt (t : Int)), .ref 1], h109)) rfl ?_
  obtain ⟨g110, r110⟩ := qi_114 F C ht hd (many := m) (by omega)
  obtain ⟨fs110, oo110⟩ := C.o
  refine yy_fin.cv (as := [.int (Int32.ofInt (t : Int)), .int (Int32.ofInt day), .int (Int32.ofInt m)]) rfl rfl rfl oo110 (Nat.le_of_ble_eq_true rfl) (Nat.le_of_ble_eq_true rfl) r110 ?_
  rintro v h110 ⟨rfl, C, x110⟩
  replace O10 := O10.k x110
  replace O16 := O16.k x110
  have hx110 := x110.1
  replace Y := Y.tr x110 (fun _ _ e => e)
  replace hY := Y.1
  refine yy_fin.steps (n := 1) (s' := (536, [some (.ref 1), some (.ref w), some (.ref 0), some (.int (Int32.ofInt fr)), some (.int (Int32.ofInt (t : Int))), some (.int (Int32.ofInt day)), some (.int (Int32.ofInt m)), some (.int (Int32.ofInt hr)), some (.int (Int32.ofInt nx)), some (.int (Int32.ofInt WK)), some (.ref b10), some (.ref b11), some (.int (Int32.ofInt GS)), some (.int (Int32.ofInt GT)), some (.int (Int32.ofInt GO)), some (.int (Int32.ofInt TT)), some (.ref b16), some (.int (Int32.ofInt (day + m - 1))), some (.int (Int32.ofInt 3)), x19, x20, x21, x22, none, none, none, none, none], [.int (Int32.ofInt TT), .int (Int32.ofInt (fd_i (tt_f (g0 541) t lst) day.toNat m.toNat 0))], h110)) rfl ?_
  refine yy_fin.ic rfl (fun _ => ?_) (fun cz => absurd (y_ceq (congrArg Int32.ofInt hT.symm)) cz)
  refine yy_fin.steps (n := 4) (s' := (547, [some (.ref 1), some (.ref w), some (.ref 0), some (.int (Int32.ofInt fr)), some (.int (Int32.ofInt (t : Int))), some (.int (Int32.ofInt day)), some (.int (Int32.ofInt m)), some (.int (Int32.ofInt hr)), some (.int (Int32.ofInt nx)), some (.int (Int32.ofInt WK)), some (.ref b10), some (.ref b11), some (.int (Int32.ofInt GS)), some (.int (Int32.ofInt GT)), some (.int (Int32.ofInt GO)), some (.int (Int32.ofInt TT)), some (.ref b16), some (.int (Int32.ofInt (day + m - 1))), some (.int (Int32.ofInt 0)), some (.int (Int32.ofInt 1)), x20, x21, x22, none, none, none, none, none], [], h110)) rfl ?_
  have e8 : fd_i (bz_g ZZ) 1 8 0 = (fd_i (bz_g ZZ) 1 7 0) := by
    show bz_g ZZ 8 (fd_i (bz_g ZZ) 1 7 0) = (fd_i (bz_g ZZ) 1 7 0)
    have := (hz (fd_i (bz_g ZZ) 1 7 0)).1
    rw [show bz_g ZZ 8 (fd_i (bz_g ZZ) 1 7 0) = if ZZ 8 ≤ ZZ (fd_i (bz_g ZZ) 1 7 0) then (fd_i (bz_g ZZ) 1 7 0) else 8 from rfl, if_pos (by omega)]
  have b8 : (fd_i (bz_g ZZ) 1 7 0) < 8 := bz_g_7 7 1 0 (by omega) (by omega)
  refine yl_lg (B := (fd_i (bz_g ZZ) 1 7 0)) O16 hz (fun x => ?_) 8 1 0 rfl (by omega) e8
  have hzB := hz (fd_i (bz_g ZZ) 1 7 0)
  generalize eBB : (fd_i (bz_g ZZ) 1 7 0) = BB at *
  refine yy_fin.steps (n := 5) (s' := (590, [some (.ref 1), some (.ref w), some (.ref 0), some (.int (Int32.ofInt fr)), some (.int (Int32.ofInt (t : Int))), some (.int (Int32.ofInt day)), some (.int (Int32.ofInt m)), some (.int (Int32.ofInt hr)), some (.int (Int32.ofInt nx)), some (.int (Int32.ofInt WK)), some (.ref b10), some (.ref b11), some (.int (Int32.ofInt GS)), some (.int (Int32.ofInt GT)), some (.int (Int32.ofInt GO)), some (.int (Int32.ofInt TT)), some (.ref b16), some (.int (Int32.ofInt (day + m - 1))), some (.int (Int32.ofInt (BB : Int))), x, x20, x21, x22, none, none, none, none, none], [.int (Int32.ofInt 0), .int (Int32.ofInt m), .int (Int32.ofInt day), .int (Int32.ofInt (t : Int)), .ref 1], h110)) rfl ?_
  obtain ⟨g111, r111⟩ := qi_117 F C ht hd (many := m) (i := 0) (by omega) (by omega)
  obtain ⟨fs111, oo111⟩ := C.o
  refine yy_fin.cv (as := [.int (Int32.ofInt (t : Int)), .int (Int32.ofInt day), .int (Int32.ofInt m), .int (Int32.ofInt 0)]) rfl rfl rfl oo111 (Nat.le_of_ble_eq_true rfl) (Nat.le_of_ble_eq_true rfl) r111 ?_
  rintro v h111 ⟨rfl, C, x111⟩
  replace O10 := O10.k x111
  replace O16 := O16.k x111
  have hx111 := x111.1
  replace Y := Y.tr x111 (fun _ _ e => e)
  replace hY := Y.1
  refine yy_fin.steps (n := 2) (s' := (597, [some (.ref 1), some (.ref w), some (.ref 0), some (.int (Int32.ofInt fr)), some (.int (Int32.ofInt (t : Int))), some (.int (Int32.ofInt day)), some (.int (Int32.ofInt m)), some (.int (Int32.ofInt hr)), some (.int (Int32.ofInt nx)), some (.int (Int32.ofInt WK)), some (.ref b10), some (.ref b11), some (.int (Int32.ofInt GS)), some (.int (Int32.ofInt GT)), some (.int (Int32.ofInt GO)), some (.int (Int32.ofInt TT)), some (.ref b16), some (.int (Int32.ofInt (day + m - 1))), some (.int (Int32.ofInt (BB : Int))), x, x20, x21, x22, none, none, none, none, none], [.int (Int32.ofInt (BB : Int)), .ref b16, .int (Int32.ofInt (s_117 (g0 541) t lst day m 0))], h111)) rfl ?_
  refine yy_fin.lp rfl O16.2 (by rw [y_9_len]; exact yi_inb (a := (BB : Int)) (by omega) (by omega) (by omega)) ((yi_cl (a := (BB : Int)) (by omega)).trans (Int.toNat_natCast BB)) (y_9_at (by omega)) ?_
  suffices J112 : ∀ v112 : Int, v112 = (if ZZ BB = 0 then -1 else (BB : Int)) → yy_fin X 298 (607, [some (.ref 1), some (.ref w), some (.ref 0), some (.int (Int32.ofInt fr)), some (.int (Int32.ofInt (t : Int))), some (.int (Int32.ofInt day)), some (.int (Int32.ofInt m)), some (.int (Int32.ofInt hr)), some (.int (Int32.ofInt nx)), some (.int (Int32.ofInt WK)), some (.ref b10), some (.ref b11), some (.int (Int32.ofInt GS)), some (.int (Int32.ofInt GT)), some (.int (Int32.ofInt GO)), some (.int (Int32.ofInt TT)), some (.ref b16), some (.int (Int32.ofInt (day + m - 1))), some (.int (Int32.ofInt (BB : Int))), x, x20, x21, x22, none, none, none, none, none], [.int (Int32.ofInt v112), .int (Int32.ofInt (s_117 (g0 541) t lst day m 0))], h111) φ by
    refine yy_fin.if rfl (fun c113 => ?_) (fun c113 => ?_)
    · have c113 := (yi_z_ne (a := ZZ BB) (by omega)).mp c113
      refine yy_fin.steps (n := 1) (s' := (607, [some (.ref 1), some (.ref w), some (.ref 0), some (.int (Int32.ofInt fr)), some (.int (Int32.ofInt (t : Int))), some (.int (Int32.ofInt day)), some (.int (Int32.ofInt m)), some (.int (Int32.ofInt hr)), some (.int (Int32.ofInt nx)), some (.int (Int32.ofInt WK)), some (.ref b10), some (.ref b11), some (.int (Int32.ofInt GS)), some (.int (Int32.ofInt GT)), some (.int (Int32.ofInt GO)), some (.int (Int32.ofInt TT)), some (.ref b16), some (.int (Int32.ofInt (day + m - 1))), some (.int (Int32.ofInt (BB : Int))), x, x20, x21, x22, none, none, none, none, none], [.int (Int32.ofInt (BB : Int)), .int (Int32.ofInt (s_117 (g0 541) t lst day m 0))], h111)) rfl ?_
      exact J112 ((BB : Int)) (by rw [if_neg (by omega)])
    · have c113 := mt (yi_z_ne (a := ZZ BB) (by omega)).mpr c113
      refine yy_fin.steps (n := 2) (s' := (607, [some (.ref 1), some (.ref w), some (.ref 0), some (.int (Int32.ofInt fr)), some (.int (Int32.ofInt (t : Int))), some (.int (Int32.ofInt day)), some (.int (Int32.ofInt m)), some (.int (Int32.ofInt hr)), some (.int (Int32.ofInt nx)), some (.int (Int32.ofInt WK)), some (.ref b10), some (.ref b11), some (.int (Int32.ofInt GS)), some (.int (Int32.ofInt GT)), some (.int (Int32.ofInt GO)), some (.int (Int32.ofInt TT)), some (.ref b16), some (.int (Int32.ofInt (day + m - 1))), some (.int (Int32.ofInt (BB : Int))), x, x20, x21, x22, none, none, none, none, none], [.int (Int32.ofInt (-1)), .int (Int32.ofInt (s_117 (g0 541) t lst day m 0))], h111)) rfl ?_
      exact J112 (-1) (by rw [if_pos (by omega)])
  intro v112 ev112
  have q607 : s_117 (g0 541) t lst day m 0 = v112 := by unfold s_117; rw [ey, eBB, ev112, if_neg (by decide)]
  refine yy_fin.ic rfl (fun cz => absurd (congrArg Int32.ofInt q607) (y_cne cz)) (fun _ => ?_)
  refine yy_fin.steps (n := 5) (s' := (618, [some (.ref 1), some (.ref w), some (.ref 0), some (.int (Int32.ofInt fr)), some (.int (Int32.ofInt (t : Int))), some (.int (Int32.ofInt day)), some (.int (Int32.ofInt m)), some (.int (Int32.ofInt hr)), some (.int (Int32.ofInt nx)), some (.int (Int32.ofInt WK)), some (.ref b10), some (.ref b11), some (.int (Int32.ofInt GS)), some (.int (Int32.ofInt GT)), some (.int (Int32.ofInt GO)), some (.int (Int32.ofInt TT)), some (.ref b16), some (.int (Int32.ofInt (day + m - 1))), some (.int (Int32.ofInt (BB : Int))), x, x20, x21, x22, none, none, none, none, none], [.int (Int32.ofInt 1), .int (Int32.ofInt m), .int (Int32.ofInt day), .int (Int32.ofInt (t : Int)), .ref 1], h111)) rfl ?_
  obtain ⟨g114, r114⟩ := qi_117 F C ht hd (many := m) (i := 1) (by omega) (by omega)
  obtain ⟨fs114, oo114⟩ := C.o
  refine yy_fin.cv (as := [.int (Int32.ofInt (t : Int)), .int (Int32.ofInt day), .int (Int32.ofInt m), .int (Int32.ofInt 1)]) rfl rfl rfl oo114 (Nat.le_of_ble_eq_true rfl) (Nat.le_of_ble_eq_true rfl) r114 ?_
  rintro v h114 ⟨rfl, C, x114⟩
  replace O10 := O10.k x114
  replace O16 := O16.k x114
  have hx114 := x114.1
  replace Y := Y.tr x114 (fun _ _ e => e)
  replace hY := Y.1
  refine yy_fin.steps (n := 2) (s' := (625, [some (.ref 1), some (.ref w), some (.ref 0), some (.int (Int32.ofInt fr)), some (.int (Int32.ofInt (t : Int))), some (.int (Int32.ofInt day)), some (.int (Int32.ofInt m)), some (.int (Int32.ofInt hr)), some (.int (Int32.ofInt nx)), some (.int (Int32.ofInt WK)), some (.ref b10), some (.ref b11), some (.int (Int32.ofInt GS)), some (.int (Int32.ofInt GT)), some (.int (Int32.ofInt GO)), some (.int (Int32.ofInt TT)), some (.ref b16), some (.int (Int32.ofInt (day + m - 1))), some (.int (Int32.ofInt (BB : Int))), x, x20, x21, x22, none, none, none, none, none], [.int (Int32.ofInt (BB : Int)), .ref b16, .int (Int32.ofInt (s_117 (g0 541) t lst day m 1))], h114)) rfl ?_
  refine yy_fin.lp rfl O16.2 (by rw [y_9_len]; exact yi_inb (a := (BB : Int)) (by omega) (by omega) (by omega)) ((yi_cl (a := (BB : Int)) (by omega)).trans (Int.toNat_natCast BB)) (y_9_at (by omega)) ?_
  have q626 : s_117 (g0 541) t lst day m 1 = ZZ BB := by unfold s_117; rw [ey, eBB, if_pos rfl]
  refine yy_fin.ic rfl (fun _ => ?_) (fun cz => absurd (y_ceq (congrArg Int32.ofInt q626)) cz)
  exact kk _ _ _ _ C (Y.le (by omega) (by omega))
end YD15
