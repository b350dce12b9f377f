/-! W: places, hours, what a second belongs to (printed by wip/p54/w2.py) -/
def yWp (h : zz_H) (w : Nat) (q : Int) : Prop := ∃ o p b tx, yO h w 12 [some (some o), some (some p), some (some b), none, some tx, none, none, none, none] ∧ h.2.2 w 3 = Int32.ofInt q
theorem yWo.wp {own : yOwn} {h : zz_H} {w : Nat} {S : yWd} (W : yWo own h w S) : yWp h w S.2.1 := by
  obtain ⟨-, o, p, b, tx, o1, o2, -⟩ := W
  exact ⟨o, p, b, tx, o1, o2⟩
theorem yWp.f {h h' : zz_H} {w a d : Nat} {q : Int} (W : yWp h w q) (x : yx yF a d h h') : yWp h' w q := by
  obtain ⟨o, p, b, tx, o1, o2⟩ := W
  exact ⟨o, p, b, tx, o1.x x id, (o1.i x id 3).trans o2⟩
/-- the first second with place n or above, in a half of l seconds; l if there is none -/
def yk (q n l : Int) : Int := min l ((n * l + 12 * q - 1) / (12 * q))
theorem yk_iff {q n l s : Int} (hq : 1 ≤ q) (hl : 1 ≤ l) : n ≤ s * 12 * q / l ↔ (n * l + 12 * q - 1) / (12 * q) ≤ s := by
  rw [Int.le_ediv_iff_mul_le (by omega)]
  have h1 : (n * l + 12 * q - 1) / (12 * q) ≤ s ↔ (n * l + 12 * q - 1) / (12 * q) < s + 1 := by omega
  rw [h1, Int.ediv_lt_iff_lt_mul (by omega), Int.add_mul, Int.mul_assoc s 12 q]
  omega
theorem yp_b {q l s : Int} (hq : 1 ≤ q ∧ q ≤ 3600) (hl : 1 ≤ l) (hs : 0 ≤ s ∧ s ≤ l) : 0 ≤ s * 12 * q / l ∧ s * 12 * q / l ≤ 12 * q := by
  have h0 : 0 ≤ s * 12 * q := Int.mul_nonneg (by omega) (by omega)
  refine ⟨Int.ediv_nonneg h0 (by omega), ?_⟩
  have h1 : s * 12 * q / l < 12 * q + 1 := by
    rw [Int.ediv_lt_iff_lt_mul (by omega), Int.add_mul, Int.mul_assoc s 12 q, Int.mul_comm s]
    have := Int.mul_le_mul_of_nonneg_left hs.2 (show 0 ≤ 12 * q by omega)
    omega
  omega
theorem yk_b {q n l : Int} (hq : 1 ≤ q) (hl : 1 ≤ l) (hn : 0 ≤ n) : 0 ≤ yk q n l ∧ yk q n l ≤ l := by
  have h0 : 0 ≤ n * l := Int.mul_nonneg hn (by omega)
  have h1 : 0 ≤ (n * l + 12 * q - 1) / (12 * q) := Int.ediv_nonneg (by omega) (by omega)
  unfold yk
  omega
theorem yk_12 {q l : Int} (hq : 1 ≤ q) : yk q (12 * q) l = l := by
  unfold yk
  have e : 12 * q * l + 12 * q - 1 = (12 * q - 1) + l * (12 * q) := by rw [Int.mul_comm (12 * q) l]; omega
  rw [e, Int.add_mul_ediv_right _ _ (by omega), Int.ediv_eq_zero_of_lt (by omega) (by omega)]
  omega
def wt_P (T : Nat → Nat → Int) (c : Nat) (d s : Int) : Option (Int × Int × Int × Int) := match tw_H T c d 0 with
  | none => none
  | some (b, l) => if s < b then wk_r (d - 1) 1 (tw_H T c (d - 1) 1) else if s < b + l then some (d, 0, b, l) else wk_r d 1 (tw_H T c d 1)
/-- a night goes from the end of a light to the beginning of the next -/
theorem tw_H_1 {T : Nat → Nat → Int} {c : Nat} {d b l : Int} (e : tw_H T c d 1 = some (b, l)) : (∃ b0 l0, tw_H T c d 0 = some (b0, l0) ∧ b = b0 + l0) ∧ ∃ b2 l2, tw_H T c (d + 1) 0 = some (b2, l2) ∧ b + l = 86400 + b2 := by
  unfold tw_H at e ⊢
  by_cases c1 : 0 ≤ d ∧ d ≤ 35999
  rotate_left
  · rw [if_pos c1] at e
    cases e
  rw [if_neg (fun z => z c1)] at e
  by_cases c2 : (1 : Int) = 1 ∧ d = 35999
  · rw [if_pos c2] at e
    cases e
  rw [if_neg c2] at e
  by_cases c3 : tw_P T (d % 360) c ≠ -1
  · rw [if_pos c3] at e
    cases e
  rw [if_neg c3, if_pos rfl] at e
  by_cases c4 : tw_P T ((d + 1) % 360) c ≠ -1
  · rw [if_pos c4] at e
    cases e
  rw [if_neg c4] at e
  have e := Option.some.inj e
  have e5 := congrArg Prod.fst e
  have e6 := congrArg Prod.snd e
  dsimp only at e5 e6
  refine ⟨⟨_, _, by rw [if_neg (fun z => z c1), if_neg (by omega), if_neg c3, if_neg (by decide)], by omega⟩, ⟨_, _, by rw [if_neg (fun z => z (by omega)), if_neg (by omega), if_neg c4, if_neg (by decide)], by omega⟩⟩
section YW2
variable {X : yy_X} {own : yOwn} {h : zz_H} {w t k : Nat} {T : Nat → Nat → Int} {c : Nat} {b l q : Int}
theorem yw_place (W : yWp h w q) (hq : 1 ≤ q ∧ q ≤ 3600) (o : yP h k [Int32.ofInt b, Int32.ofInt (b + l)]) (hb : 0 ≤ b ∧ b ≤ 1000000) (hl : 1 ≤ l ∧ l ≤ 172798) {s : Int} (hs : b ≤ s ∧ s ≤ b + l) : yy_fin X 285 (0, zz_in [.ref w, .ref k, .int (Int32.ofInt s)] (zz_nl 285), [], h) (fun r h' => r = some (.int (Int32.ofInt ((s - b) * 12 * q / l))) ∧ h' = h) := by
  obtain ⟨o9, p9, b9, tx9, oW, eW⟩ := id W
  have hp := yi_pb (a := (s - b) * 12) (b := q) (x := 2073576) (y := 3600) (by omega) (by omega)
  have hp0 : 0 ≤ (s - b) * 12 * q := Int.mul_nonneg (by omega) (by omega)
  refine yy_fin.steps (n := 3) (s' := (3, [some (.ref w), some (.ref k), some (.int (Int32.ofInt s))], [.int (Int32.ofInt 0), .ref k, .int (Int32.ofInt s)], h)) rfl ?_
  refine yy_fin.lp rfl o rfl (by decide : (Int32.ofInt 0).toNatClampNeg = 0) rfl ?_
  refine yy_fin.steps (n := 5) (s' := (11, [some (.ref w), some (.ref k), some (.int (Int32.ofInt s))], [.ref w, .long ((((Int32.ofInt s) - (Int32.ofInt b)).toInt64) * (Int64.ofInt 12))], h)) rfl ?_
  rw [yi_sub s b]
  rw [yl_i2l (a := s - b) (by omega)]
  rw [yl_mul (s - b) 12]
  refine yy_fin.fi rfl oW rfl eW ?_
  refine yy_fin.steps (n := 4) (s' := (18, [some (.ref w), some (.ref k), some (.int (Int32.ofInt s))], [.int (Int32.ofInt 1), .ref k, .long ((Int64.ofInt ((s - b) * 12)) * ((Int32.ofInt q).toInt64))], h)) rfl ?_
  rw [yl_i2l (a := q) (by omega)]
  rw [yl_mul ((s - b) * 12) q]
  refine yy_fin.lp rfl o rfl (by decide : (Int32.ofInt 1).toNatClampNeg = 1) rfl ?_
  refine yy_fin.steps (n := 2) (s' := (21, [some (.ref w), some (.ref k), some (.int (Int32.ofInt s))], [.int (Int32.ofInt 0), .ref k, .int (Int32.ofInt (b + l)), .long (Int64.ofInt (((s - b) * 12) * q))], h)) rfl ?_
  refine yy_fin.lp rfl o rfl (by decide : (Int32.ofInt 0).toNatClampNeg = 0) rfl ?_
  refine yy_fin.steps (n := 2) (s' := (24, [some (.ref w), some (.ref k), some (.int (Int32.ofInt s))], [.long (((Int32.ofInt (b + l)) - (Int32.ofInt b)).toInt64), .long (Int64.ofInt (((s - b) * 12) * q))], h)) rfl ?_
  rw [yi_sub (b + l) b]
  rw [yl_i2l (a := (b + l) - b) (by omega)]
  have hd0 : Int64.ofInt (b + l - b) ≠ 0 := fun z => by
    have z := Int64.toInt_inj.mpr z
    rw [yl_T (by omega), show (0 : Int64).toInt = 0 from rfl] at z
    omega
  refine yy_fin.ld rfl hd0 ?_
  rw [yl_div (a := (s - b) * 12 * q) (b := b + l - b) (by omega) (by omega), show b + l - b = l by omega]
  refine yy_fin.steps (n := 1) (s' := (26, [some (.ref w), some (.ref k), some (.int (Int32.ofInt s))], [.int ((Int64.ofInt ((s - b) * 12 * q / l)).toInt32)], h)) rfl ?_
  rw [yl_l2i ((s - b) * 12 * q / l)]
  exact yy_fin.at (n := 1) rfl ⟨rfl, rfl⟩
theorem yw_bL2 (W : yWp h w q) (hq : 1 ≤ q ∧ q ≤ 3600) (o : yP h k [Int32.ofInt b, Int32.ofInt (b + l)]) (hb : 0 ≤ b ∧ b ≤ 1000000) (hl : 1 ≤ l ∧ l ≤ 172798) {n : Int} (hn : 0 ≤ n ∧ n ≤ 100000) : ∀ (d : Nat) (a e : Int) (a5 : Option Value), e - a ≤ d → b ≤ a → a ≤ b + yk q n l → b + yk q n l ≤ e → e ≤ b + l → yy_fin X 286 (9, [some (.ref w), some (.ref k), some (.int (Int32.ofInt n)), some (.int (Int32.ofInt a)), some (.int (Int32.ofInt e)), a5], [], h) (fun r h' => r = some (.int (Int32.ofInt (b + yk q n l))) ∧ h' = h)
  | 0, a, e, a5, hd, h1, h2, h3, h4 => by
    refine yy_fin.steps (n := 2) (s' := (12, [some (.ref w), some (.ref k), some (.int (Int32.ofInt n)), some (.int (Int32.ofInt a)), some (.int (Int32.ofInt e)), a5], [.int (Int32.ofInt e), .int (Int32.ofInt a)], h)) rfl ?_
    refine yy_fin.ic rfl (fun cq => ?_) (fun cq => absurd ((yi_c_ge (a := a) (b := e) (by omega) (by omega)).mpr (by omega)) cq)
    have cq := (yi_c_ge (a := a) (b := e) (by omega) (by omega)).mp cq
    refine yy_fin.steps (n := 1) (s' := (50, [some (.ref w), some (.ref k), some (.int (Int32.ofInt n)), some (.int (Int32.ofInt a)), some (.int (Int32.ofInt e)), a5], [.int (Int32.ofInt a)], h)) rfl ?_
    have e9 : a = b + yk q n l := by omega
    rw [e9]
    exact yy_fin.at (n := 1) rfl ⟨rfl, rfl⟩
  | d + 1, a, e, a5, hd, h1, h2, h3, h4 => by
    obtain ⟨o9, p9, b9, tx9, oW, eW⟩ := id W
    refine yy_fin.steps (n := 2) (s' := (12, [some (.ref w), some (.ref k), some (.int (Int32.ofInt n)), some (.int (Int32.ofInt a)), some (.int (Int32.ofInt e)), a5], [.int (Int32.ofInt e), .int (Int32.ofInt a)], h)) rfl ?_
    refine yy_fin.ic rfl (fun c1 => ?_) (fun c1 => ?_)
    · have c1 := (yi_c_ge (a := a) (b := e) (by omega) (by omega)).mp c1
      refine yy_fin.steps (n := 1) (s' := (50, [some (.ref w), some (.ref k), some (.int (Int32.ofInt n)), some (.int (Int32.ofInt a)), some (.int (Int32.ofInt e)), a5], [.int (Int32.ofInt a)], h)) rfl ?_
      have e9 : a = b + yk q n l := by omega
      rw [e9]
      exact yy_fin.at (n := 1) rfl ⟨rfl, rfl⟩
    · have c1 := mt (yi_c_ge (a := a) (b := e) (by omega) (by omega)).mpr c1
      refine yy_fin.steps (n := 4) (s' := (20, [some (.ref w), some (.ref k), some (.int (Int32.ofInt n)), some (.int (Int32.ofInt a)), some (.int (Int32.ofInt e)), a5], [.int (Int32.ofInt 2), .int ((Int32.ofInt a) + (Int32.ofInt e))], h)) rfl ?_
      rw [yi_add a e]
      refine yy_fin.dv rfl (by decide) ?_
      rw [yi_div (a := a + e) (b := 2) (by omega) (by omega)]
      obtain ⟨m, em⟩ : ∃ m, m = (a + e) / 2 := ⟨_, rfl⟩
      rw [← em]
      have hm : a ≤ m ∧ m < e := by omega
      refine yy_fin.steps (n := 4) (s' := (27, [some (.ref w), some (.ref k), some (.int (Int32.ofInt n)), some (.int (Int32.ofInt a)), some (.int (Int32.ofInt e)), some (.int (Int32.ofInt m))], [.int (Int32.ofInt m), .ref k, .ref w], h)) rfl ?_
      refine yy_fin.cv (as := [.ref k, .int (Int32.ofInt m)]) rfl rfl rfl oW (Nat.le_of_ble_eq_true rfl) (Nat.le_of_ble_eq_true rfl) (yw_place W hq o hb hl (by omega)) ?_
      rintro v h9 ⟨rfl, e9⟩
      obtain rfl := e9.symm
      have hpb := yp_b (q := q) (l := l) (s := m - b) hq (by omega) (by omega)
      have hk := yk_iff (q := q) (n := n) (l := l) (s := m - b) (by omega) (by omega)
      refine yy_fin.steps (n := 1) (s' := (31, [some (.ref w), some (.ref k), some (.int (Int32.ofInt n)), some (.int (Int32.ofInt a)), some (.int (Int32.ofInt e)), some (.int (Int32.ofInt m))], [.int (Int32.ofInt n), .int (Int32.ofInt ((m - b) * 12 * q / l))], h)) rfl ?_
      refine yy_fin.ic rfl (fun c2 => ?_) (fun c2 => ?_)
      · have c2 := (yi_c_lt (a := (m - b) * 12 * q / l) (b := n) (by omega) (by omega)).mp c2
        have k9 : b + yk q n l > m := by unfold yk; omega
        refine yy_fin.steps (n := 5) (s' := (9, [some (.ref w), some (.ref k), some (.int (Int32.ofInt n)), some (.int ((Int32.ofInt m) + (Int32.ofInt 1))), some (.int (Int32.ofInt e)), some (.int (Int32.ofInt m))], [], h)) rfl ?_
        rw [yi_add m 1]
        exact yw_bL2 W hq o hb hl hn d (m + 1) e _ (by omega) (by omega) (by omega) (by omega) (by omega)
      · have c2 := mt (yi_c_lt (a := (m - b) * 12 * q / l) (b := n) (by omega) (by omega)).mpr c2
        have k9 : b + yk q n l ≤ m := by unfold yk; omega
        refine yy_fin.steps (n := 4) (s' := (9, [some (.ref w), some (.ref k), some (.int (Int32.ofInt n)), some (.int (Int32.ofInt a)), some (.int (Int32.ofInt m)), some (.int (Int32.ofInt m))], [], h)) rfl ?_
        exact yw_bL2 W hq o hb hl hn d a m _ (by omega) (by omega) (by omega) (by omega) (by omega)
theorem yw_back (W : yWp h w q) (hq : 1 ≤ q ∧ q ≤ 3600) (o : yP h k [Int32.ofInt b, Int32.ofInt (b + l)]) (hb : 0 ≤ b ∧ b ≤ 1000000) (hl : 1 ≤ l ∧ l ≤ 172798) {n : Int} (hn : 0 ≤ n ∧ n ≤ 100000) : yy_fin X 286 (0, zz_in [.ref w, .ref k, .int (Int32.ofInt n)] (zz_nl 286), [], h) (fun r h' => r = some (.int (Int32.ofInt (b + yk q n l))) ∧ h' = h) := by
  have hkb := yk_b (q := q) (n := n) (l := l) (by omega) (by omega) (by omega)
  refine yy_fin.steps (n := 2) (s' := (2, [some (.ref w), some (.ref k), some (.int (Int32.ofInt n)), none, none, none], [.int (Int32.ofInt 0), .ref k], h)) rfl ?_
  refine yy_fin.lp rfl o rfl (by decide : (Int32.ofInt 0).toNatClampNeg = 0) rfl ?_
  refine yy_fin.steps (n := 3) (s' := (6, [some (.ref w), some (.ref k), some (.int (Int32.ofInt n)), some (.int (Int32.ofInt b)), none, none], [.int (Int32.ofInt 1), .ref k], h)) rfl ?_
  refine yy_fin.lp rfl o rfl (by decide : (Int32.ofInt 1).toNatClampNeg = 1) rfl ?_
  refine yy_fin.steps (n := 1) (s' := (9, [some (.ref w), some (.ref k), some (.int (Int32.ofInt n)), some (.int (Int32.ofInt b)), some (.int (Int32.ofInt (b + l))), none], [], h)) rfl ?_
  exact yw_bL2 W hq o hb hl hn l.toNat b (b + l) none (by omega) (by omega) (by omega) (by omega) (by omega)
theorem yw_hour (W : yWp h w q) (hq : 1 ≤ q ∧ q ≤ 3600) (o : yP h k [Int32.ofInt b, Int32.ofInt (b + l)]) (hb : 0 ≤ b ∧ b ≤ 1000000) (hl : 1 ≤ l ∧ l ≤ 172798) {hr : Int} (hh : 0 ≤ hr ∧ hr ≤ 12) : yy_fin X 287 (0, zz_in [.ref w, .ref k, .int (Int32.ofInt hr)] (zz_nl 287), [], h) (fun r h' => r = some (.int (Int32.ofInt (b + yk q (hr * q) l))) ∧ h' = h) := by
  obtain ⟨o9, p9, b9, tx9, oW, eW⟩ := id W
  have hp := yi_pb (a := hr) (b := q) (x := 12) (y := 3600) (by omega) (by omega)
  have hp0 : 0 ≤ hr * q := Int.mul_nonneg (by omega) (by omega)
  refine yy_fin.steps (n := 2) (s' := (3, [some (.ref w), some (.ref k), some (.int (Int32.ofInt hr))], [.int (Int32.ofInt 12), .int (Int32.ofInt hr)], h)) rfl ?_
  refine yy_fin.ic rfl (fun c1 => ?_) (fun c1 => ?_)
  · have c1 := (yi_c_ne (a := hr) (b := 12) (by omega) (by omega)).mp c1
    refine yy_fin.steps (n := 4) (s' := (16, [some (.ref w), some (.ref k), some (.int (Int32.ofInt hr))], [.ref w, .int (Int32.ofInt hr), .ref k, .ref w], h)) rfl ?_
    refine yy_fin.fi rfl oW rfl eW ?_
    refine yy_fin.steps (n := 1) (s' := (20, [some (.ref w), some (.ref k), some (.int (Int32.ofInt hr))], [.int ((Int32.ofInt hr) * (Int32.ofInt q)), .ref k, .ref w], h)) rfl ?_
    rw [yi_mul hr q]
    refine yy_fin.cv (as := [.ref k, .int (Int32.ofInt (hr * q))]) rfl rfl rfl oW (Nat.le_of_ble_eq_true rfl) (Nat.le_of_ble_eq_true rfl) (yw_back W hq o hb hl (n := hr * q) (by omega)) ?_
    rintro v h9 ⟨rfl, e9⟩
    obtain rfl := e9.symm
    exact yy_fin.at (n := 1) rfl ⟨rfl, rfl⟩
  · have c1 := mt (yi_c_ne (a := hr) (b := 12) (by omega) (by omega)).mpr c1
    have e12 : hr = 12 := by omega
    rw [e12]
    refine yy_fin.steps (n := 2) (s' := (8, [some (.ref w), some (.ref k), some (.int (Int32.ofInt 12))], [.int (Int32.ofInt 1), .ref k], h)) rfl ?_
    refine yy_fin.lp rfl o rfl (by decide : (Int32.ofInt 1).toNatClampNeg = 1) rfl ?_
    refine yy_fin.steps (n := 1) (s' := (23, [some (.ref w), some (.ref k), some (.int (Int32.ofInt 12))], [.int (Int32.ofInt (b + l))], h)) rfl ?_
    exact yy_fin.at (n := 1) rfl ⟨by rw [yk_12 (by omega)], rfl⟩
theorem yw_light (W : yTb own h w t T c) (ok : tw_ok T c) {day : Int} (hd : -1000000 ≤ day ∧ day ≤ 1000000) (hB : h.1.1 + 3 < yy_B) (hz : zz_Zr h) : yy_fin X 299 (0, zz_in [.ref w, .int (Int32.ofInt (t : Int)), .int (Int32.ofInt day)] (zz_nl 299), [], h) (fun r h' => yx yF 3 6 h h' ∧ r = some (.int (Int32.ofInt (match tw_H T c day 0 with | none => -1 | some (_, l) => l)))) := by
  refine yy_fin.steps (n := 4) (s' := (4, [some (.ref w), some (.int (Int32.ofInt (t : Int))), some (.int (Int32.ofInt day)), none], [.int (Int32.ofInt 0), .int (Int32.ofInt day), .int (Int32.ofInt (t : Int)), .ref w], h)) rfl ?_
  obtain ⟨_, _, _, _, _, _, _, oW, -⟩ := id W
  refine yy_fin.cv (as := [.int (Int32.ofInt (t : Int)), .int (Int32.ofInt day), .int (Int32.ofInt 0)]) rfl rfl rfl oW (Nat.le_of_ble_eq_true rfl) (Nat.le_of_ble_eq_true rfl) (yw_half W ok hd (Or.inl rfl) hB hz) ?_
  rintro v h1 ⟨x1, r1⟩
  cases e1 : tw_H T c day 0 with
  | none =>
    rw [e1] at r1
    cases r1
    refine yy_fin.steps (n := 5) (s' := (23, [some (.ref w), some (.int (Int32.ofInt (t : Int))), some (.int (Int32.ofInt day)), some (.null)], [.int (Int32.ofInt (-1))], h1)) rfl ?_
    exact yy_fin.at (n := 1) rfl ⟨x1, rfl⟩
  | some p =>
    obtain ⟨b, l⟩ := p
    rw [e1] at r1
    obtain ⟨k, rfl, -, o⟩ := r1
    have bd := tw_H_b ok e1
    refine yy_fin.steps (n := 5) (s' := (18, [some (.ref w), some (.int (Int32.ofInt (t : Int))), some (.int (Int32.ofInt day)), some (.ref k)], [.int (Int32.ofInt 1), .ref k], h1)) rfl ?_
    refine yy_fin.lp rfl o rfl (by decide : (Int32.ofInt 1).toNatClampNeg = 1) rfl ?_
    refine yy_fin.steps (n := 2) (s' := (21, [some (.ref w), some (.int (Int32.ofInt (t : Int))), some (.int (Int32.ofInt day)), some (.ref k)], [.int (Int32.ofInt 0), .ref k, .int (Int32.ofInt (b + l))], h1)) rfl ?_
    refine yy_fin.lp rfl o rfl (by decide : (Int32.ofInt 0).toNatClampNeg = 0) rfl ?_
    refine yy_fin.steps (n := 1) (s' := (23, [some (.ref w), some (.int (Int32.ofInt (t : Int))), some (.int (Int32.ofInt day)), some (.ref k)], [.int ((Int32.ofInt (b + l)) - (Int32.ofInt b))], h1)) rfl ?_
    rw [yi_sub (b + l) b]
    exact yy_fin.at (n := 1) rfl ⟨x1, by (try dsimp only); rw [show b + l - b = l by omega]⟩
theorem yw_bel (W : yTb own h w t T c) (ok : tw_ok T c) {day s : Int} (hd : 0 ≤ day ∧ day ≤ 35999) (hs : 0 ≤ s ∧ s ≤ 86399) (hB : h.1.1 + 13 < yy_B) (hz : zz_Zr h) : yy_fin X 284 (0, zz_in [.ref w, .int (Int32.ofInt (t : Int)), .int (Int32.ofInt day), .int (Int32.ofInt s)] (zz_nl 284), [], h) (fun r h' => yx yF 13 27 h h' ∧ match wt_P T c day s with | none => r = some .null | some (d, f, b, l) => ∃ k, r = some (.ref k) ∧ h.1.1 < k ∧ yP h' k [Int32.ofInt d, Int32.ofInt f, Int32.ofInt (s + 86400 * (day - d) - b)]) := by
  obtain ⟨_, _, _, _, _, _, _, oW, -⟩ := id W
  refine yy_fin.steps (n := 1) (s' := (1, [some (.ref w), some (.int (Int32.ofInt (t : Int))), some (.int (Int32.ofInt day)), some (.int (Int32.ofInt s)), none, none, none, none], [.int (Int32.ofInt day)], h)) rfl ?_
  refine yy_fin.if rfl (fun cq => absurd ((yi_z_lt (a := day) (by omega)).mp cq) (by omega)) (fun cq => ?_)
  have cq := mt (yi_z_lt (a := day) (by omega)).mpr cq
  refine yy_fin.steps (n := 2) (s' := (7, [some (.ref w), some (.int (Int32.ofInt (t : Int))), some (.int (Int32.ofInt day)), some (.int (Int32.ofInt s)), none, none, none, none], [.int (Int32.ofInt 35999), .int (Int32.ofInt day)], h)) rfl ?_
  refine yy_fin.ic rfl (fun cq => ?_) (fun cq => absurd ((yi_c_le (a := day) (b := 35999) (by omega) (by omega)).mpr (by omega)) cq)
  have cq := (yi_c_le (a := day) (b := 35999) (by omega) (by omega)).mp cq
  refine yy_fin.steps (n := 6) (s' := (20, [some (.ref w), some (.int (Int32.ofInt (t : Int))), some (.int (Int32.ofInt day)), some (.int (Int32.ofInt s)), some (.int ((Int32.ofInt day) - (Int32.ofInt 1))), none, none, none], [.int (Int32.ofInt day), .int ((Int32.ofInt day) - (Int32.ofInt 1))], h)) rfl ?_
  rw [yi_sub day 1]
  refine yy_fin.ic rfl (fun cq => absurd ((yi_c_gt (a := day - 1) (b := day) (by omega) (by omega)).mp cq) (by omega)) (fun cq => ?_)
  have cq := mt (yi_c_gt (a := day - 1) (b := day) (by omega) (by omega)).mpr cq
  refine yy_fin.steps (n := 4) (s' := (29, [some (.ref w), some (.int (Int32.ofInt (t : Int))), some (.int (Int32.ofInt day)), some (.int (Int32.ofInt s)), some (.int (Int32.ofInt (day - 1))), some (.int (Int32.ofInt 0)), none, none], [.int (Int32.ofInt 2), .int (Int32.ofInt 0)], h)) rfl ?_
  refine yy_fin.ic rfl (fun cK => absurd cK (by decide)) (fun cK => ?_)
  refine yy_fin.steps (n := 4) (s' := (38, [some (.ref w), some (.int (Int32.ofInt (t : Int))), some (.int (Int32.ofInt day)), some (.int (Int32.ofInt s)), some (.int (Int32.ofInt (day - 1))), some (.int (Int32.ofInt 0)), none, none], [.int (Int32.ofInt 0), .int (Int32.ofInt (day - 1)), .int (Int32.ofInt (t : Int)), .ref w], h)) rfl ?_
  refine yy_fin.cv (as := [.int (Int32.ofInt (t : Int)), .int (Int32.ofInt (day - 1)), .int (Int32.ofInt 0)]) rfl rfl rfl oW (Nat.le_of_ble_eq_true rfl) (Nat.le_of_ble_eq_true rfl) (yw_half W ok (by omega) (Or.inl rfl) (by omega) hz) ?_
  rintro v1 h1 ⟨x1, r1⟩
  have W1 := W.f x1
  have oW1 := oW.x x1 id
  have y1 : yx yF 3 6 h h1 := x1
  cases e1 : tw_H T c (day - 1) 0 with
  | none =>
    rw [e1] at r1
    cases r1
    refine yy_fin.steps (n := 1) (s' := (43, [some (.ref w), some (.int (Int32.ofInt (t : Int))), some (.int (Int32.ofInt day)), some (.int (Int32.ofInt s)), some (.int (Int32.ofInt (day - 1))), some (.int (Int32.ofInt 0)), some (.null), none], [], h1)) rfl ?_
    refine yy_fin.steps (n := 8) (s' := (54, [some (.ref w), some (.int (Int32.ofInt (t : Int))), some (.int (Int32.ofInt day)), some (.int (Int32.ofInt s)), some (.int (Int32.ofInt (day - 1))), some (.int (Int32.ofInt 0)), some (.null), some (.int (Int32.ofInt s + Int32.ofInt 86400 * (Int32.ofInt day - Int32.ofInt (day - 1))))], [], h1)) rfl ?_
    rw [yi_sub day (day - 1), yi_mul 86400 (day - (day - 1)), yi_add s (86400 * (day - (day - 1))), show s + 86400 * (day - (day - 1)) = s + 86400 by omega]
    refine yy_fin.steps (n := 2) (s' := (101, [some (.ref w), some (.int (Int32.ofInt (t : Int))), some (.int (Int32.ofInt day)), some (.int (Int32.ofInt s)), some (.int (Int32.ofInt (day - 1))), some (.int (Int32.ofInt 0)), some (.null), some (.int (Int32.ofInt (s + 86400)))], [], h1)) rfl ?_
    refine yy_fin.steps (n := 1) (s' := (104, [some (.ref w), some (.int (Int32.ofInt (t : Int))), some (.int (Int32.ofInt day)), some (.int (Int32.ofInt s)), some (.int (Int32.ofInt (day - 1))), some (.int (Int32.ofInt 0 + Int32.ofInt 1)), some (.null), some (.int (Int32.ofInt (s + 86400)))], [], h1)) rfl ?_
    rw [yi_add 0 1, show (0 : Int) + 1 = 1 by decide]
    refine yy_fin.steps (n := 3) (s' := (29, [some (.ref w), some (.int (Int32.ofInt (t : Int))), some (.int (Int32.ofInt day)), some (.int (Int32.ofInt s)), some (.int (Int32.ofInt (day - 1))), some (.int (Int32.ofInt 1)), some (.null), some (.int (Int32.ofInt (s + 86400)))], [.int (Int32.ofInt 2), .int (Int32.ofInt 1)], h1)) rfl ?_
    refine yy_fin.ic rfl (fun cK => absurd cK (by decide)) (fun cK => ?_)
    refine yy_fin.steps (n := 4) (s' := (38, [some (.ref w), some (.int (Int32.ofInt (t : Int))), some (.int (Int32.ofInt day)), some (.int (Int32.ofInt s)), some (.int (Int32.ofInt (day - 1))), some (.int (Int32.ofInt 1)), some (.null), some (.int (Int32.ofInt (s + 86400)))], [.int (Int32.ofInt 1), .int (Int32.ofInt (day - 1)), .int (Int32.ofInt (t : Int)), .ref w], h1)) rfl ?_
    refine yy_fin.cv (as := [.int (Int32.ofInt (t : Int)), .int (Int32.ofInt (day - 1)), .int (Int32.ofInt 1)]) rfl rfl rfl oW1 (Nat.le_of_ble_eq_true rfl) (Nat.le_of_ble_eq_true rfl) (yw_half W1 ok (by omega) (Or.inr rfl) (by have := y1.1; omega) (y1.zr hz)) ?_
    rintro v2 h2 ⟨x2, r2⟩
    have W2 := W1.f x2
    have oW2 := oW1.x x2 id
    have y2 : yx yF 6 12 h h2 := (y1.tr x2 (fun _ _ e => e)).le (Nat.le_refl _) (Nat.le_refl _)
    cases e2 : tw_H T c (day - 1) 1 with
    | none =>
      rw [e2] at r2
      cases r2
      refine yy_fin.steps (n := 1) (s' := (43, [some (.ref w), some (.int (Int32.ofInt (t : Int))), some (.int (Int32.ofInt day)), some (.int (Int32.ofInt s)), some (.int (Int32.ofInt (day - 1))), some (.int (Int32.ofInt 1)), some (.null), some (.int (Int32.ofInt (s + 86400)))], [], h2)) rfl ?_
      refine yy_fin.steps (n := 8) (s' := (54, [some (.ref w), some (.int (Int32.ofInt (t : Int))), some (.int (Int32.ofInt day)), some (.int (Int32.ofInt s)), some (.int (Int32.ofInt (day - 1))), some (.int (Int32.ofInt 1)), some (.null), some (.int (Int32.ofInt s + Int32.ofInt 86400 * (Int32.ofInt day - Int32.ofInt (day - 1))))], [], h2)) rfl ?_
      rw [yi_sub day (day - 1), yi_mul 86400 (day - (day - 1)), yi_add s (86400 * (day - (day - 1))), show s + 86400 * (day - (day - 1)) = s + 86400 by omega]
      refine yy_fin.steps (n := 2) (s' := (101, [some (.ref w), some (.int (Int32.ofInt (t : Int))), some (.int (Int32.ofInt day)), some (.int (Int32.ofInt s)), some (.int (Int32.ofInt (day - 1))), some (.int (Int32.ofInt 1)), some (.null), some (.int (Int32.ofInt (s + 86400)))], [], h2)) rfl ?_
      refine yy_fin.steps (n := 1) (s' := (104, [some (.ref w), some (.int (Int32.ofInt (t : Int))), some (.int (Int32.ofInt day)), some (.int (Int32.ofInt s)), some (.int (Int32.ofInt (day - 1))), some (.int (Int32.ofInt 1 + Int32.ofInt 1)), some (.null), some (.int (Int32.ofInt (s + 86400)))], [], h2)) rfl ?_
      rw [yi_add 1 1, show (1 : Int) + 1 = 2 by decide]
      refine yy_fin.steps (n := 3) (s' := (29, [some (.ref w), some (.int (Int32.ofInt (t : Int))), some (.int (Int32.ofInt day)), some (.int (Int32.ofInt s)), some (.int (Int32.ofInt (day - 1))), some (.int (Int32.ofInt 2)), some (.null), some (.int (Int32.ofInt (s + 86400)))], [.int (Int32.ofInt 2), .int (Int32.ofInt 2)], h2)) rfl ?_
      refine yy_fin.ic rfl (fun cK => ?_) (fun cK => absurd (by decide) cK)
      refine yy_fin.steps (n := 1) (s' := (110, [some (.ref w), some (.int (Int32.ofInt (t : Int))), some (.int (Int32.ofInt day)), some (.int (Int32.ofInt s)), some (.int (Int32.ofInt (day - 1) + Int32.ofInt 1)), some (.int (Int32.ofInt 2)), some (.null), some (.int (Int32.ofInt (s + 86400)))], [], h2)) rfl ?_
      rw [yi_add (day - 1) 1, show day - 1 + 1 = day by omega]
      refine yy_fin.steps (n := 3) (s' := (20, [some (.ref w), some (.int (Int32.ofInt (t : Int))), some (.int (Int32.ofInt day)), some (.int (Int32.ofInt s)), some (.int (Int32.ofInt day)), some (.int (Int32.ofInt 2)), some (.null), some (.int (Int32.ofInt (s + 86400)))], [.int (Int32.ofInt day), .int (Int32.ofInt day)], h2)) rfl ?_
      refine yy_fin.ic rfl (fun cq => absurd ((yi_c_gt (a := day) (b := day) (by omega) (by omega)).mp cq) (by omega)) (fun cq => ?_)
      have cq := mt (yi_c_gt (a := day) (b := day) (by omega) (by omega)).mpr cq
      refine yy_fin.steps (n := 4) (s' := (29, [some (.ref w), some (.int (Int32.ofInt (t : Int))), some (.int (Int32.ofInt day)), some (.int (Int32.ofInt s)), some (.int (Int32.ofInt day)), some (.int (Int32.ofInt 0)), some (.null), some (.int (Int32.ofInt (s + 86400)))], [.int (Int32.ofInt 2), .int (Int32.ofInt 0)], h2)) rfl ?_
      refine yy_fin.ic rfl (fun cK => absurd cK (by decide)) (fun cK => ?_)
      refine yy_fin.steps (n := 4) (s' := (38, [some (.ref w), some (.int (Int32.ofInt (t : Int))), some (.int (Int32.ofInt day)), some (.int (Int32.ofInt s)), some (.int (Int32.ofInt day)), some (.int (Int32.ofInt 0)), some (.null), some (.int (Int32.ofInt (s + 86400)))], [.int (Int32.ofInt 0), .int (Int32.ofInt day), .int (Int32.ofInt (t : Int)), .ref w], h2)) rfl ?_
      refine yy_fin.cv (as := [.int (Int32.ofInt (t : Int)), .int (Int32.ofInt day), .int (Int32.ofInt 0)]) rfl rfl rfl oW2 (Nat.le_of_ble_eq_true rfl) (Nat.le_of_ble_eq_true rfl) (yw_half W2 ok (by omega) (Or.inl rfl) (by have := y2.1; omega) (y2.zr hz)) ?_
      rintro v3 h3 ⟨x3, r3⟩
      have W3 := W2.f x3
      have oW3 := oW2.x x3 id
      have y3 : yx yF 9 18 h h3 := (y2.tr x3 (fun _ _ e => e)).le (Nat.le_refl _) (Nat.le_refl _)
      cases e3 : tw_H T c day 0 with
      | none =>
        rw [e3] at r3
        cases r3
        refine yy_fin.steps (n := 1) (s' := (43, [some (.ref w), some (.int (Int32.ofInt (t : Int))), some (.int (Int32.ofInt day)), some (.int (Int32.ofInt s)), some (.int (Int32.ofInt day)), some (.int (Int32.ofInt 0)), some (.null), some (.int (Int32.ofInt (s + 86400)))], [], h3)) rfl ?_
        refine yy_fin.steps (n := 8) (s' := (54, [some (.ref w), some (.int (Int32.ofInt (t : Int))), some (.int (Int32.ofInt day)), some (.int (Int32.ofInt s)), some (.int (Int32.ofInt day)), some (.int (Int32.ofInt 0)), some (.null), some (.int (Int32.ofInt s + Int32.ofInt 86400 * (Int32.ofInt day - Int32.ofInt day)))], [], h3)) rfl ?_
        rw [yi_sub day day, yi_mul 86400 (day - day), yi_add s (86400 * (day - day)), show s + 86400 * (day - day) = s by omega]
        refine yy_fin.steps (n := 2) (s' := (101, [some (.ref w), some (.int (Int32.ofInt (t : Int))), some (.int (Int32.ofInt day)), some (.int (Int32.ofInt s)), some (.int (Int32.ofInt day)), some (.int (Int32.ofInt 0)), some (.null), some (.int (Int32.ofInt s))], [], h3)) rfl ?_
        refine yy_fin.steps (n := 1) (s' := (104, [some (.ref w), some (.int (Int32.ofInt (t : Int))), some (.int (Int32.ofInt day)), some (.int (Int32.ofInt s)), some (.int (Int32.ofInt day)), some (.int (Int32.ofInt 0 + Int32.ofInt 1)), some (.null), some (.int (Int32.ofInt s))], [], h3)) rfl ?_
        rw [yi_add 0 1, show (0 : Int) + 1 = 1 by decide]
        refine yy_fin.steps (n := 3) (s' := (29, [some (.ref w), some (.int (Int32.ofInt (t : Int))), some (.int (Int32.ofInt day)), some (.int (Int32.ofInt s)), some (.int (Int32.ofInt day)), some (.int (Int32.ofInt 1)), some (.null), some (.int (Int32.ofInt s))], [.int (Int32.ofInt 2), .int (Int32.ofInt 1)], h3)) rfl ?_
        refine yy_fin.ic rfl (fun cK => absurd cK (by decide)) (fun cK => ?_)
        refine yy_fin.steps (n := 4) (s' := (38, [some (.ref w), some (.int (Int32.ofInt (t : Int))), some (.int (Int32.ofInt day)), some (.int (Int32.ofInt s)), some (.int (Int32.ofInt day)), some (.int (Int32.ofInt 1)), some (.null), some (.int (Int32.ofInt s))], [.int (Int32.ofInt 1), .int (Int32.ofInt day), .int (Int32.ofInt (t : Int)), .ref w], h3)) rfl ?_
        refine yy_fin.cv (as := [.int (Int32.ofInt (t : Int)), .int (Int32.ofInt day), .int (Int32.ofInt 1)]) rfl rfl rfl oW3 (Nat.le_of_ble_eq_true rfl) (Nat.le_of_ble_eq_true rfl) (yw_half W3 ok (by omega) (Or.inr rfl) (by have := y3.1; omega) (y3.zr hz)) ?_
        rintro v4 h4 ⟨x4, r4⟩
        have W4 := W3.f x4
        have oW4 := oW3.x x4 id
        have y4 : yx yF 12 24 h h4 := (y3.tr x4 (fun _ _ e => e)).le (Nat.le_refl _) (Nat.le_refl _)
        cases e4 : tw_H T c day 1 with
        | none =>
          rw [e4] at r4
          cases r4
          refine yy_fin.steps (n := 1) (s' := (43, [some (.ref w), some (.int (Int32.ofInt (t : Int))), some (.int (Int32.ofInt day)), some (.int (Int32.ofInt s)), some (.int (Int32.ofInt day)), some (.int (Int32.ofInt 1)), some (.null), some (.int (Int32.ofInt s))], [], h4)) rfl ?_
          refine yy_fin.steps (n := 8) (s' := (54, [some (.ref w), some (.int (Int32.ofInt (t : Int))), some (.int (Int32.ofInt day)), some (.int (Int32.ofInt s)), some (.int (Int32.ofInt day)), some (.int (Int32.ofInt 1)), some (.null), some (.int (Int32.ofInt s + Int32.ofInt 86400 * (Int32.ofInt day - Int32.ofInt day)))], [], h4)) rfl ?_
          rw [yi_sub day day, yi_mul 86400 (day - day), yi_add s (86400 * (day - day)), show s + 86400 * (day - day) = s by omega]
          refine yy_fin.steps (n := 2) (s' := (101, [some (.ref w), some (.int (Int32.ofInt (t : Int))), some (.int (Int32.ofInt day)), some (.int (Int32.ofInt s)), some (.int (Int32.ofInt day)), some (.int (Int32.ofInt 1)), some (.null), some (.int (Int32.ofInt s))], [], h4)) rfl ?_
          refine yy_fin.steps (n := 1) (s' := (104, [some (.ref w), some (.int (Int32.ofInt (t : Int))), some (.int (Int32.ofInt day)), some (.int (Int32.ofInt s)), some (.int (Int32.ofInt day)), some (.int (Int32.ofInt 1 + Int32.ofInt 1)), some (.null), some (.int (Int32.ofInt s))], [], h4)) rfl ?_
          rw [yi_add 1 1, show (1 : Int) + 1 = 2 by decide]
          refine yy_fin.steps (n := 3) (s' := (29, [some (.ref w), some (.int (Int32.ofInt (t : Int))), some (.int (Int32.ofInt day)), some (.int (Int32.ofInt s)), some (.int (Int32.ofInt day)), some (.int (Int32.ofInt 2)), some (.null), some (.int (Int32.ofInt s))], [.int (Int32.ofInt 2), .int (Int32.ofInt 2)], h4)) rfl ?_
          refine yy_fin.ic rfl (fun cK => ?_) (fun cK => absurd (by decide) cK)
          refine yy_fin.steps (n := 4) (s' := (20, [some (.ref w), some (.int (Int32.ofInt (t : Int))), some (.int (Int32.ofInt day)), some (.int (Int32.ofInt s)), some (.int ((Int32.ofInt day) + (Int32.ofInt 1))), some (.int (Int32.ofInt 2)), some (.null), some (.int (Int32.ofInt s))], [.int (Int32.ofInt day), .int ((Int32.ofInt day) + (Int32.ofInt 1))], h4)) rfl ?_
          rw [yi_add day 1]
          refine yy_fin.ic rfl (fun cq => ?_) (fun cq => absurd ((yi_c_gt (a := day + 1) (b := day) (by omega) (by omega)).mpr (by omega)) cq)
          have cq := (yi_c_gt (a := day + 1) (b := day) (by omega) (by omega)).mp cq
          refine yy_fin.steps (n := 1) (s' := (114, [some (.ref w), some (.int (Int32.ofInt (t : Int))), some (.int (Int32.ofInt day)), some (.int (Int32.ofInt s)), some (.int (Int32.ofInt (day + 1))), some (.int (Int32.ofInt 2)), some (.null), some (.int (Int32.ofInt s))], [.null], h4)) rfl ?_
          have eR : wt_P T c day s = none := by
            unfold wt_P
            rw [e3]
          rw [eR]
          exact yy_fin.at (n := 1) rfl ⟨y4.le (by decide) (by decide), rfl⟩
        | some p4 =>
          obtain ⟨b4, l4⟩ := p4
          obtain ⟨⟨b0, l0, f1, f2⟩, -⟩ := tw_H_1 e4
          rw [e3] at f1
          cases f1
      | some p3 =>
        obtain ⟨b3, l3⟩ := p3
        rw [e3] at r3
        obtain ⟨k3, rfl, -, o3⟩ := r3
        have bd3 := tw_H_b ok e3
        have bd3b := bd3.2.2.2.1 (by decide)
        refine yy_fin.steps (n := 1) (s' := (43, [some (.ref w), some (.int (Int32.ofInt (t : Int))), some (.int (Int32.ofInt day)), some (.int (Int32.ofInt s)), some (.int (Int32.ofInt day)), some (.int (Int32.ofInt 0)), some (.ref k3), some (.int (Int32.ofInt (s + 86400)))], [], h3)) rfl ?_
        refine yy_fin.steps (n := 8) (s' := (54, [some (.ref w), some (.int (Int32.ofInt (t : Int))), some (.int (Int32.ofInt day)), some (.int (Int32.ofInt s)), some (.int (Int32.ofInt day)), some (.int (Int32.ofInt 0)), some (.ref k3), some (.int (Int32.ofInt s + Int32.ofInt 86400 * (Int32.ofInt day - Int32.ofInt day)))], [], h3)) rfl ?_
        rw [yi_sub day day, yi_mul 86400 (day - day), yi_add s (86400 * (day - day)), show s + 86400 * (day - day) = s by omega]
        refine yy_fin.steps (n := 5) (s' := (64, [some (.ref w), some (.int (Int32.ofInt (t : Int))), some (.int (Int32.ofInt day)), some (.int (Int32.ofInt s)), some (.int (Int32.ofInt day)), some (.int (Int32.ofInt 0)), some (.ref k3), some (.int (Int32.ofInt s))], [.int (Int32.ofInt 0), .ref k3, .int (Int32.ofInt s)], h3)) rfl ?_
        refine yy_fin.lp rfl o3 rfl (by decide : (Int32.ofInt 0).toNatClampNeg = 0) rfl ?_
        refine yy_fin.ic rfl (fun c13 => ?_) (fun c13 => ?_)
        · have c13 := (yi_c_lt (a := s) (b := b3) (by omega) (by omega)).mp c13
          refine yy_fin.steps (n := 1) (s' := (104, [some (.ref w), some (.int (Int32.ofInt (t : Int))), some (.int (Int32.ofInt day)), some (.int (Int32.ofInt s)), some (.int (Int32.ofInt day)), some (.int (Int32.ofInt 0 + Int32.ofInt 1)), some (.ref k3), some (.int (Int32.ofInt s))], [], h3)) rfl ?_
          rw [yi_add 0 1, show (0 : Int) + 1 = 1 by decide]
          refine yy_fin.steps (n := 3) (s' := (29, [some (.ref w), some (.int (Int32.ofInt (t : Int))), some (.int (Int32.ofInt day)), some (.int (Int32.ofInt s)), some (.int (Int32.ofInt day)), some (.int (Int32.ofInt 1)), some (.ref k3), some (.int (Int32.ofInt s))], [.int (Int32.ofInt 2), .int (Int32.ofInt 1)], h3)) rfl ?_
          refine yy_fin.ic rfl (fun cK => absurd cK (by decide)) (fun cK => ?_)
          refine yy_fin.steps (n := 4) (s' := (38, [some (.ref w), some (.int (Int32.ofInt (t : Int))), some (.int (Int32.ofInt day)), some (.int (Int32.ofInt s)), some (.int (Int32.ofInt day)), some (.int (Int32.ofInt 1)), some (.ref k3), some (.int (Int32.ofInt s))], [.int (Int32.ofInt 1), .int (Int32.ofInt day), .int (Int32.ofInt (t : Int)), .ref w], h3)) rfl ?_
          refine yy_fin.cv (as := [.int (Int32.ofInt (t : Int)), .int (Int32.ofInt day), .int (Int32.ofInt 1)]) rfl rfl rfl oW3 (Nat.le_of_ble_eq_true rfl) (Nat.le_of_ble_eq_true rfl) (yw_half W3 ok (by omega) (Or.inr rfl) (by have := y3.1; omega) (y3.zr hz)) ?_
          rintro v4 h4 ⟨x4, r4⟩
          have W4 := W3.f x4
          have oW4 := oW3.x x4 id
          have y4 : yx yF 12 24 h h4 := (y3.tr x4 (fun _ _ e => e)).le (Nat.le_refl _) (Nat.le_refl _)
          cases e4 : tw_H T c day 1 with
          | none =>
            rw [e4] at r4
            cases r4
            refine yy_fin.steps (n := 1) (s' := (43, [some (.ref w), some (.int (Int32.ofInt (t : Int))), some (.int (Int32.ofInt day)), some (.int (Int32.ofInt s)), some (.int (Int32.ofInt day)), some (.int (Int32.ofInt 1)), some (.null), some (.int (Int32.ofInt s))], [], h4)) rfl ?_
            refine yy_fin.steps (n := 8) (s' := (54, [some (.ref w), some (.int (Int32.ofInt (t : Int))), some (.int (Int32.ofInt day)), some (.int (Int32.ofInt s)), some (.int (Int32.ofInt day)), some (.int (Int32.ofInt 1)), some (.null), some (.int (Int32.ofInt s + Int32.ofInt 86400 * (Int32.ofInt day - Int32.ofInt day)))], [], h4)) rfl ?_
            rw [yi_sub day day, yi_mul 86400 (day - day), yi_add s (86400 * (day - day)), show s + 86400 * (day - day) = s by omega]
            refine yy_fin.steps (n := 2) (s' := (101, [some (.ref w), some (.int (Int32.ofInt (t : Int))), some (.int (Int32.ofInt day)), some (.int (Int32.ofInt s)), some (.int (Int32.ofInt day)), some (.int (Int32.ofInt 1)), some (.null), some (.int (Int32.ofInt s))], [], h4)) rfl ?_
            refine yy_fin.steps (n := 1) (s' := (104, [some (.ref w), some (.int (Int32.ofInt (t : Int))), some (.int (Int32.ofInt day)), some (.int (Int32.ofInt s)), some (.int (Int32.ofInt day)), some (.int (Int32.ofInt 1 + Int32.ofInt 1)), some (.null), some (.int (Int32.ofInt s))], [], h4)) rfl ?_
            rw [yi_add 1 1, show (1 : Int) + 1 = 2 by decide]
            refine yy_fin.steps (n := 3) (s' := (29, [some (.ref w), some (.int (Int32.ofInt (t : Int))), some (.int (Int32.ofInt day)), some (.int (Int32.ofInt s)), some (.int (Int32.ofInt day)), some (.int (Int32.ofInt 2)), some (.null), some (.int (Int32.ofInt s))], [.int (Int32.ofInt 2), .int (Int32.ofInt 2)], h4)) rfl ?_
            refine yy_fin.ic rfl (fun cK => ?_) (fun cK => absurd (by decide) cK)
            refine yy_fin.steps (n := 4) (s' := (20, [some (.ref w), some (.int (Int32.ofInt (t : Int))), some (.int (Int32.ofInt day)), some (.int (Int32.ofInt s)), some (.int ((Int32.ofInt day) + (Int32.ofInt 1))), some (.int (Int32.ofInt 2)), some (.null), some (.int (Int32.ofInt s))], [.int (Int32.ofInt day), .int ((Int32.ofInt day) + (Int32.ofInt 1))], h4)) rfl ?_
            rw [yi_add day 1]
            refine yy_fin.ic rfl (fun cq => ?_) (fun cq => absurd ((yi_c_gt (a := day + 1) (b := day) (by omega) (by omega)).mpr (by omega)) cq)
            have cq := (yi_c_gt (a := day + 1) (b := day) (by omega) (by omega)).mp cq
            refine yy_fin.steps (n := 1) (s' := (114, [some (.ref w), some (.int (Int32.ofInt (t : Int))), some (.int (Int32.ofInt day)), some (.int (Int32.ofInt s)), some (.int (Int32.ofInt (day + 1))), some (.int (Int32.ofInt 2)), some (.null), some (.int (Int32.ofInt s))], [.null], h4)) rfl ?_
            have eR : wt_P T c day s = none := by
              unfold wt_P
              rw [e3]
              dsimp only
              rw [if_pos (by omega), e2]
              rfl
            rw [eR]
            exact yy_fin.at (n := 1) rfl ⟨y4.le (by decide) (by decide), rfl⟩
          | some p4 =>
            obtain ⟨b4, l4⟩ := p4
            rw [e4] at r4
            obtain ⟨k4, rfl, -, o4⟩ := r4
            have bd4 := tw_H_b ok e4
            have bd4b := bd4.2.2.2.2 rfl
            obtain ⟨⟨b0, l0, f1, f2⟩, -⟩ := tw_H_1 e4
            rw [e3] at f1
            have f3 := congrArg Prod.fst (Option.some.inj f1)
            have f4 := congrArg Prod.snd (Option.some.inj f1)
            dsimp only at f3 f4
            refine yy_fin.steps (n := 1) (s' := (43, [some (.ref w), some (.int (Int32.ofInt (t : Int))), some (.int (Int32.ofInt day)), some (.int (Int32.ofInt s)), some (.int (Int32.ofInt day)), some (.int (Int32.ofInt 1)), some (.ref k4), some (.int (Int32.ofInt s))], [], h4)) rfl ?_
            refine yy_fin.steps (n := 8) (s' := (54, [some (.ref w), some (.int (Int32.ofInt (t : Int))), some (.int (Int32.ofInt day)), some (.int (Int32.ofInt s)), some (.int (Int32.ofInt day)), some (.int (Int32.ofInt 1)), some (.ref k4), some (.int (Int32.ofInt s + Int32.ofInt 86400 * (Int32.ofInt day - Int32.ofInt day)))], [], h4)) rfl ?_
            rw [yi_sub day day, yi_mul 86400 (day - day), yi_add s (86400 * (day - day)), show s + 86400 * (day - day) = s by omega]
            refine yy_fin.steps (n := 5) (s' := (64, [some (.ref w), some (.int (Int32.ofInt (t : Int))), some (.int (Int32.ofInt day)), some (.int (Int32.ofInt s)), some (.int (Int32.ofInt day)), some (.int (Int32.ofInt 1)), some (.ref k4), some (.int (Int32.ofInt s))], [.int (Int32.ofInt 0), .ref k4, .int (Int32.ofInt s)], h4)) rfl ?_
            refine yy_fin.lp rfl o4 rfl (by decide : (Int32.ofInt 0).toNatClampNeg = 0) rfl ?_
            refine yy_fin.ic rfl (fun cq => ?_) (fun cq => absurd ((yi_c_lt (a := s) (b := b4) (by omega) (by omega)).mpr (by omega)) cq)
            have cq := (yi_c_lt (a := s) (b := b4) (by omega) (by omega)).mp cq
            refine yy_fin.steps (n := 1) (s' := (104, [some (.ref w), some (.int (Int32.ofInt (t : Int))), some (.int (Int32.ofInt day)), some (.int (Int32.ofInt s)), some (.int (Int32.ofInt day)), some (.int (Int32.ofInt 1 + Int32.ofInt 1)), some (.ref k4), some (.int (Int32.ofInt s))], [], h4)) rfl ?_
            rw [yi_add 1 1, show (1 : Int) + 1 = 2 by decide]
            refine yy_fin.steps (n := 3) (s' := (29, [some (.ref w), some (.int (Int32.ofInt (t : Int))), some (.int (Int32.ofInt day)), some (.int (Int32.ofInt s)), some (.int (Int32.ofInt day)), some (.int (Int32.ofInt 2)), some (.ref k4), some (.int (Int32.ofInt s))], [.int (Int32.ofInt 2), .int (Int32.ofInt 2)], h4)) rfl ?_
            refine yy_fin.ic rfl (fun cK => ?_) (fun cK => absurd (by decide) cK)
            refine yy_fin.steps (n := 4) (s' := (20, [some (.ref w), some (.int (Int32.ofInt (t : Int))), some (.int (Int32.ofInt day)), some (.int (Int32.ofInt s)), some (.int ((Int32.ofInt day) + (Int32.ofInt 1))), some (.int (Int32.ofInt 2)), some (.ref k4), some (.int (Int32.ofInt s))], [.int (Int32.ofInt day), .int ((Int32.ofInt day) + (Int32.ofInt 1))], h4)) rfl ?_
            rw [yi_add day 1]
            refine yy_fin.ic rfl (fun cq => ?_) (fun cq => absurd ((yi_c_gt (a := day + 1) (b := day) (by omega) (by omega)).mpr (by omega)) cq)
            have cq := (yi_c_gt (a := day + 1) (b := day) (by omega) (by omega)).mp cq
            refine yy_fin.steps (n := 1) (s' := (114, [some (.ref w), some (.int (Int32.ofInt (t : Int))), some (.int (Int32.ofInt day)), some (.int (Int32.ofInt s)), some (.int (Int32.ofInt (day + 1))), some (.int (Int32.ofInt 2)), some (.ref k4), some (.int (Int32.ofInt s))], [.null], h4)) rfl ?_
            have eR : wt_P T c day s = none := by
              unfold wt_P
              rw [e3]
              dsimp only
              rw [if_pos (by omega), e2]
              rfl
            rw [eR]
            exact yy_fin.at (n := 1) rfl ⟨y4.le (by decide) (by decide), rfl⟩
        · have c13 := mt (yi_c_lt (a := s) (b := b3) (by omega) (by omega)).mpr c13
          refine yy_fin.steps (n := 3) (s' := (73, [some (.ref w), some (.int (Int32.ofInt (t : Int))), some (.int (Int32.ofInt day)), some (.int (Int32.ofInt s)), some (.int (Int32.ofInt day)), some (.int (Int32.ofInt 0)), some (.ref k3), some (.int (Int32.ofInt s))], [.int (Int32.ofInt 1), .ref k3, .int (Int32.ofInt s)], h3)) rfl ?_
          refine yy_fin.lp rfl o3 rfl (by decide : (Int32.ofInt 1).toNatClampNeg = 1) rfl ?_
          refine yy_fin.ic rfl (fun c23 => ?_) (fun c23 => ?_)
          · have c23 := (yi_c_ge (a := s) (b := b3 + l3) (by omega) (by omega)).mp c23
            refine yy_fin.steps (n := 1) (s' := (104, [some (.ref w), some (.int (Int32.ofInt (t : Int))), some (.int (Int32.ofInt day)), some (.int (Int32.ofInt s)), some (.int (Int32.ofInt day)), some (.int (Int32.ofInt 0 + Int32.ofInt 1)), some (.ref k3), some (.int (Int32.ofInt s))], [], h3)) rfl ?_
            rw [yi_add 0 1, show (0 : Int) + 1 = 1 by decide]
            refine yy_fin.steps (n := 3) (s' := (29, [some (.ref w), some (.int (Int32.ofInt (t : Int))), some (.int (Int32.ofInt day)), some (.int (Int32.ofInt s)), some (.int (Int32.ofInt day)), some (.int (Int32.ofInt 1)), some (.ref k3), some (.int (Int32.ofInt s))], [.int (Int32.ofInt 2), .int (Int32.ofInt 1)], h3)) rfl ?_
            refine yy_fin.ic rfl (fun cK => absurd cK (by decide)) (fun cK => ?_)
            refine yy_fin.steps (n := 4) (s' := (38, [some (.ref w), some (.int (Int32.ofInt (t : Int))), some (.int (Int32.ofInt day)), some (.int (Int32.ofInt s)), some (.int (Int32.ofInt day)), some (.int (Int32.ofInt 1)), some (.ref k3), some (.int (Int32.ofInt s))], [.int (Int32.ofInt 1), .int (Int32.ofInt day), .int (Int32.ofInt (t : Int)), .ref w], h3)) rfl ?_
            refine yy_fin.cv (as := [.int (Int32.ofInt (t : Int)), .int (Int32.ofInt day), .int (Int32.ofInt 1)]) rfl rfl rfl oW3 (Nat.le_of_ble_eq_true rfl) (Nat.le_of_ble_eq_true rfl) (yw_half W3 ok (by omega) (Or.inr rfl) (by have := y3.1; omega) (y3.zr hz)) ?_
            rintro v4 h4 ⟨x4, r4⟩
            have W4 := W3.f x4
            have oW4 := oW3.x x4 id
            have y4 : yx yF 12 24 h h4 := (y3.tr x4 (fun _ _ e => e)).le (Nat.le_refl _) (Nat.le_refl _)
            cases e4 : tw_H T c day 1 with
            | none =>
              rw [e4] at r4
              cases r4
              refine yy_fin.steps (n := 1) (s' := (43, [some (.ref w), some (.int (Int32.ofInt (t : Int))), some (.int (Int32.ofInt day)), some (.int (Int32.ofInt s)), some (.int (Int32.ofInt day)), some (.int (Int32.ofInt 1)), some (.null), some (.int (Int32.ofInt s))], [], h4)) rfl ?_
              refine yy_fin.steps (n := 8) (s' := (54, [some (.ref w), some (.int (Int32.ofInt (t : Int))), some (.int (Int32.ofInt day)), some (.int (Int32.ofInt s)), some (.int (Int32.ofInt day)), some (.int (Int32.ofInt 1)), some (.null), some (.int (Int32.ofInt s + Int32.ofInt 86400 * (Int32.ofInt day - Int32.ofInt day)))], [], h4)) rfl ?_
              rw [yi_sub day day, yi_mul 86400 (day - day), yi_add s (86400 * (day - day)), show s + 86400 * (day - day) = s by omega]
              refine yy_fin.steps (n := 2) (s' := (101, [some (.ref w), some (.int (Int32.ofInt (t : Int))), some (.int (Int32.ofInt day)), some (.int (Int32.ofInt s)), some (.int (Int32.ofInt day)), some (.int (Int32.ofInt 1)), some (.null), some (.int (Int32.ofInt s))], [], h4)) rfl ?_
              refine yy_fin.steps (n := 1) (s' := (104, [some (.ref w), some (.int (Int32.ofInt (t : Int))), some (.int (Int32.ofInt day)), some (.int (Int32.ofInt s)), some (.int (Int32.ofInt day)), some (.int (Int32.ofInt 1 + Int32.ofInt 1)), some (.null), some (.int (Int32.ofInt s))], [], h4)) rfl ?_
              rw [yi_add 1 1, show (1 : Int) + 1 = 2 by decide]
              refine yy_fin.steps (n := 3) (s' := (29, [some (.ref w), some (.int (Int32.ofInt (t : Int))), some (.int (Int32.ofInt day)), some (.int (Int32.ofInt s)), some (.int (Int32.ofInt day)), some (.int (Int32.ofInt 2)), some (.null), some (.int (Int32.ofInt s))], [.int (Int32.ofInt 2), .int (Int32.ofInt 2)], h4)) rfl ?_
              refine yy_fin.ic rfl (fun cK => ?_) (fun cK => absurd (by decide) cK)
              refine yy_fin.steps (n := 4) (s' := (20, [some (.ref w), some (.int (Int32.ofInt (t : Int))), some (.int (Int32.ofInt day)), some (.int (Int32.ofInt s)), some (.int ((Int32.ofInt day) + (Int32.ofInt 1))), some (.int (Int32.ofInt 2)), some (.null), some (.int (Int32.ofInt s))], [.int (Int32.ofInt day), .int ((Int32.ofInt day) + (Int32.ofInt 1))], h4)) rfl ?_
              rw [yi_add day 1]
              refine yy_fin.ic rfl (fun cq => ?_) (fun cq => absurd ((yi_c_gt (a := day + 1) (b := day) (by omega) (by omega)).mpr (by omega)) cq)
              have cq := (yi_c_gt (a := day + 1) (b := day) (by omega) (by omega)).mp cq
              refine yy_fin.steps (n := 1) (s' := (114, [some (.ref w), some (.int (Int32.ofInt (t : Int))), some (.int (Int32.ofInt day)), some (.int (Int32.ofInt s)), some (.int (Int32.ofInt (day + 1))), some (.int (Int32.ofInt 2)), some (.null), some (.int (Int32.ofInt s))], [.null], h4)) rfl ?_
              have eR : wt_P T c day s = none := by
                unfold wt_P
                rw [e3]
                dsimp only
                rw [if_neg (by omega), if_neg (by omega), e4]
                rfl
              rw [eR]
              exact yy_fin.at (n := 1) rfl ⟨y4.le (by decide) (by decide), rfl⟩
            | some p4 =>
              obtain ⟨b4, l4⟩ := p4
              rw [e4] at r4
              obtain ⟨k4, rfl, -, o4⟩ := r4
              have bd4 := tw_H_b ok e4
              have bd4b := bd4.2.2.2.2 rfl
              obtain ⟨⟨b0, l0, f1, f2⟩, -⟩ := tw_H_1 e4
              rw [e3] at f1
              have f3 := congrArg Prod.fst (Option.some.inj f1)
              have f4 := congrArg Prod.snd (Option.some.inj f1)
              dsimp only at f3 f4
              refine yy_fin.steps (n := 1) (s' := (43, [some (.ref w), some (.int (Int32.ofInt (t : Int))), some (.int (Int32.ofInt day)), some (.int (Int32.ofInt s)), some (.int (Int32.ofInt day)), some (.int (Int32.ofInt 1)), some (.ref k4), some (.int (Int32.ofInt s))], [], h4)) rfl ?_
              refine yy_fin.steps (n := 8) (s' := (54, [some (.ref w), some (.int (Int32.ofInt (t : Int))), some (.int (Int32.ofInt day)), some (.int (Int32.ofInt s)), some (.int (Int32.ofInt day)), some (.int (Int32.ofInt 1)), some (.ref k4), some (.int (Int32.ofInt s + Int32.ofInt 86400 * (Int32.ofInt day - Int32.ofInt day)))], [], h4)) rfl ?_
              rw [yi_sub day day, yi_mul 86400 (day - day), yi_add s (86400 * (day - day)), show s + 86400 * (day - day) = s by omega]
              refine yy_fin.steps (n := 5) (s' := (64, [some (.ref w), some (.int (Int32.ofInt (t : Int))), some (.int (Int32.ofInt day)), some (.int (Int32.ofInt s)), some (.int (Int32.ofInt day)), some (.int (Int32.ofInt 1)), some (.ref k4), some (.int (Int32.ofInt s))], [.int (Int32.ofInt 0), .ref k4, .int (Int32.ofInt s)], h4)) rfl ?_
              refine yy_fin.lp rfl o4 rfl (by decide : (Int32.ofInt 0).toNatClampNeg = 0) rfl ?_
              refine yy_fin.ic rfl (fun cq => absurd ((yi_c_lt (a := s) (b := b4) (by omega) (by omega)).mp cq) (by omega)) (fun cq => ?_)
              have cq := mt (yi_c_lt (a := s) (b := b4) (by omega) (by omega)).mpr cq
              refine yy_fin.steps (n := 3) (s' := (73, [some (.ref w), some (.int (Int32.ofInt (t : Int))), some (.int (Int32.ofInt day)), some (.int (Int32.ofInt s)), some (.int (Int32.ofInt day)), some (.int (Int32.ofInt 1)), some (.ref k4), some (.int (Int32.ofInt s))], [.int (Int32.ofInt 1), .ref k4, .int (Int32.ofInt s)], h4)) rfl ?_
              refine yy_fin.lp rfl o4 rfl (by decide : (Int32.ofInt 1).toNatClampNeg = 1) rfl ?_
              refine yy_fin.ic rfl (fun cq => absurd ((yi_c_ge (a := s) (b := b4 + l4) (by omega) (by omega)).mp cq) (by omega)) (fun cq => ?_)
              have cq := mt (yi_c_ge (a := s) (b := b4 + l4) (by omega) (by omega)).mpr cq
              refine yy_fin.steps (n := 1) (s' := (78, [some (.ref w), some (.int (Int32.ofInt (t : Int))), some (.int (Int32.ofInt day)), some (.int (Int32.ofInt s)), some (.int (Int32.ofInt day)), some (.int (Int32.ofInt 1)), some (.ref k4), some (.int (Int32.ofInt s))], [.int (Int32.ofInt 3)], h4)) rfl ?_
              refine yy_fin.ni (n := 3) rfl (by decide) (by decide) (by decide) (by have := y4.1; omega) (y4.zr hz) fun h5 x5 e5 i5 z5 => ?_
              have q5 : yQ h5 (h4.1.1 + 1) 3 [] := ⟨i5, fun j v e => nomatch e⟩
              have o4n := o4.x x5 id
              have nle := o4.le
              have hle := y4.1
              refine yy_fin.steps (n := 3) (s' := (84, [some (.ref w), some (.int (Int32.ofInt (t : Int))), some (.int (Int32.ofInt day)), some (.int (Int32.ofInt s)), some (.int (Int32.ofInt day)), some (.int (Int32.ofInt 1)), some (.ref k4), some (.int (Int32.ofInt s))], [.int (Int32.ofInt day), .int (Int32.ofInt 0), .ref (h4.1.1 + 1), .ref (h4.1.1 + 1)], h5)) rfl ?_
              refine yy_fin.sq rfl q5 (by decide) rfl fun h6 x6 q6 => ?_
              have o4n := o4n.x x6 (by omega)
              refine yy_fin.steps (n := 3) (s' := (89, [some (.ref w), some (.int (Int32.ofInt (t : Int))), some (.int (Int32.ofInt day)), some (.int (Int32.ofInt s)), some (.int (Int32.ofInt day)), some (.int (Int32.ofInt 1)), some (.ref k4), some (.int (Int32.ofInt s))], [.int (Int32.ofInt 1), .int (Int32.ofInt 1), .ref (h4.1.1 + 1), .ref (h4.1.1 + 1)], h6)) rfl ?_
              refine yy_fin.sq rfl q6 (by decide) rfl fun h7 x7 q7 => ?_
              have o4n := o4n.x x7 (by omega)
              refine yy_fin.steps (n := 5) (s' := (97, [some (.ref w), some (.int (Int32.ofInt (t : Int))), some (.int (Int32.ofInt day)), some (.int (Int32.ofInt s)), some (.int (Int32.ofInt day)), some (.int (Int32.ofInt 1)), some (.ref k4), some (.int (Int32.ofInt s))], [.int (Int32.ofInt 0), .ref k4, .int (Int32.ofInt s), .int (Int32.ofInt 2), .ref (h4.1.1 + 1), .ref (h4.1.1 + 1)], h7)) rfl ?_
              refine yy_fin.lp rfl o4n rfl (by decide : (Int32.ofInt 0).toNatClampNeg = 0) rfl ?_
              refine yy_fin.steps (n := 1) (s' := (99, [some (.ref w), some (.int (Int32.ofInt (t : Int))), some (.int (Int32.ofInt day)), some (.int (Int32.ofInt s)), some (.int (Int32.ofInt day)), some (.int (Int32.ofInt 1)), some (.ref k4), some (.int (Int32.ofInt s))], [.int ((Int32.ofInt s) - (Int32.ofInt b4)), .int (Int32.ofInt 2), .ref (h4.1.1 + 1), .ref (h4.1.1 + 1)], h7)) rfl ?_
              rw [yi_sub s b4]
              refine yy_fin.sq rfl q7 (by decide) rfl fun h8 x8 q8 => ?_
              have eR : wt_P T c day s = some (day, 1, b4, l4) := by
                unfold wt_P
                rw [e3]
                dsimp only
                rw [if_neg (by omega), if_neg (by omega), e4]
                rfl
              rw [eR]
              exact yy_fin.at (n := 1) rfl ⟨((((y4.tr x5 (fun _ _ e => e)).tr x6 (fun q hq e => by omega)).tr x7 (fun q hq e => by omega)).tr x8 (fun q hq e => by omega)).le (by decide) (by decide), h4.1.1 + 1, rfl, by omega, by (try dsimp only); rw [show s + 86400 * (day - day) - b4 = s - b4 by omega]; exact q8⟩
          · have c23 := mt (yi_c_ge (a := s) (b := b3 + l3) (by omega) (by omega)).mpr c23
            refine yy_fin.steps (n := 1) (s' := (78, [some (.ref w), some (.int (Int32.ofInt (t : Int))), some (.int (Int32.ofInt day)), some (.int (Int32.ofInt s)), some (.int (Int32.ofInt day)), some (.int (Int32.ofInt 0)), some (.ref k3), some (.int (Int32.ofInt s))], [.int (Int32.ofInt 3)], h3)) rfl ?_
            refine yy_fin.ni (n := 3) rfl (by decide) (by decide) (by decide) (by have := y3.1; omega) (y3.zr hz) fun h5 x5 e5 i5 z5 => ?_
            have q5 : yQ h5 (h3.1.1 + 1) 3 [] := ⟨i5, fun j v e => nomatch e⟩
            have o3n := o3.x x5 id
            have nle := o3.le
            have hle := y3.1
            refine yy_fin.steps (n := 3) (s' := (84, [some (.ref w), some (.int (Int32.ofInt (t : Int))), some (.int (Int32.ofInt day)), some (.int (Int32.ofInt s)), some (.int (Int32.ofInt day)), some (.int (Int32.ofInt 0)), some (.ref k3), some (.int (Int32.ofInt s))], [.int (Int32.ofInt day), .int (Int32.ofInt 0), .ref (h3.1.1 + 1), .ref (h3.1.1 + 1)], h5)) rfl ?_
            refine yy_fin.sq rfl q5 (by decide) rfl fun h6 x6 q6 => ?_
            have o3n := o3n.x x6 (by omega)
            refine yy_fin.steps (n := 3) (s' := (89, [some (.ref w), some (.int (Int32.ofInt (t : Int))), some (.int (Int32.ofInt day)), some (.int (Int32.ofInt s)), some (.int (Int32.ofInt day)), some (.int (Int32.ofInt 0)), some (.ref k3), some (.int (Int32.ofInt s))], [.int (Int32.ofInt 0), .int (Int32.ofInt 1), .ref (h3.1.1 + 1), .ref (h3.1.1 + 1)], h6)) rfl ?_
            refine yy_fin.sq rfl q6 (by decide) rfl fun h7 x7 q7 => ?_
            have o3n := o3n.x x7 (by omega)
            refine yy_fin.steps (n := 5) (s' := (97, [some (.ref w), some (.int (Int32.ofInt (t : Int))), some (.int (Int32.ofInt day)), some (.int (Int32.ofInt s)), some (.int (Int32.ofInt day)), some (.int (Int32.ofInt 0)), some (.ref k3), some (.int (Int32.ofInt s))], [.int (Int32.ofInt 0), .ref k3, .int (Int32.ofInt s), .int (Int32.ofInt 2), .ref (h3.1.1 + 1), .ref (h3.1.1 + 1)], h7)) rfl ?_
            refine yy_fin.lp rfl o3n rfl (by decide : (Int32.ofInt 0).toNatClampNeg = 0) rfl ?_
            refine yy_fin.steps (n := 1) (s' := (99, [some (.ref w), some (.int (Int32.ofInt (t : Int))), some (.int (Int32.ofInt day)), some (.int (Int32.ofInt s)), some (.int (Int32.ofInt day)), some (.int (Int32.ofInt 0)), some (.ref k3), some (.int (Int32.ofInt s))], [.int ((Int32.ofInt s) - (Int32.ofInt b3)), .int (Int32.ofInt 2), .ref (h3.1.1 + 1), .ref (h3.1.1 + 1)], h7)) rfl ?_
            rw [yi_sub s b3]
            refine yy_fin.sq rfl q7 (by decide) rfl fun h8 x8 q8 => ?_
            have eR : wt_P T c day s = some (day, 0, b3, l3) := by
              unfold wt_P
              rw [e3]
              dsimp only
              rw [if_neg (by omega), if_pos (by omega)]
            rw [eR]
            exact yy_fin.at (n := 1) rfl ⟨((((y3.tr x5 (fun _ _ e => e)).tr x6 (fun q hq e => by omega)).tr x7 (fun q hq e => by omega)).tr x8 (fun q hq e => by omega)).le (by decide) (by decide), h3.1.1 + 1, rfl, by omega, by (try dsimp only); rw [show s + 86400 * (day - day) - b3 = s - b3 by omega]; exact q8⟩
    | some p2 =>
      obtain ⟨b2, l2⟩ := p2
      rw [e2] at r2
      obtain ⟨k2, rfl, -, o2⟩ := r2
      have bd2 := tw_H_b ok e2
      have bd2b := bd2.2.2.2.2 rfl
      refine yy_fin.steps (n := 1) (s' := (43, [some (.ref w), some (.int (Int32.ofInt (t : Int))), some (.int (Int32.ofInt day)), some (.int (Int32.ofInt s)), some (.int (Int32.ofInt (day - 1))), some (.int (Int32.ofInt 1)), some (.ref k2), some (.int (Int32.ofInt (s + 86400)))], [], h2)) rfl ?_
      refine yy_fin.steps (n := 8) (s' := (54, [some (.ref w), some (.int (Int32.ofInt (t : Int))), some (.int (Int32.ofInt day)), some (.int (Int32.ofInt s)), some (.int (Int32.ofInt (day - 1))), some (.int (Int32.ofInt 1)), some (.ref k2), some (.int (Int32.ofInt s + Int32.ofInt 86400 * (Int32.ofInt day - Int32.ofInt (day - 1))))], [], h2)) rfl ?_
      rw [yi_sub day (day - 1), yi_mul 86400 (day - (day - 1)), yi_add s (86400 * (day - (day - 1))), show s + 86400 * (day - (day - 1)) = s + 86400 by omega]
      refine yy_fin.steps (n := 5) (s' := (64, [some (.ref w), some (.int (Int32.ofInt (t : Int))), some (.int (Int32.ofInt day)), some (.int (Int32.ofInt s)), some (.int (Int32.ofInt (day - 1))), some (.int (Int32.ofInt 1)), some (.ref k2), some (.int (Int32.ofInt (s + 86400)))], [.int (Int32.ofInt 0), .ref k2, .int (Int32.ofInt (s + 86400))], h2)) rfl ?_
      refine yy_fin.lp rfl o2 rfl (by decide : (Int32.ofInt 0).toNatClampNeg = 0) rfl ?_
      refine yy_fin.ic rfl (fun cq => absurd ((yi_c_lt (a := s + 86400) (b := b2) (by omega) (by omega)).mp cq) (by omega)) (fun cq => ?_)
      have cq := mt (yi_c_lt (a := s + 86400) (b := b2) (by omega) (by omega)).mpr cq
      refine yy_fin.steps (n := 3) (s' := (73, [some (.ref w), some (.int (Int32.ofInt (t : Int))), some (.int (Int32.ofInt day)), some (.int (Int32.ofInt s)), some (.int (Int32.ofInt (day - 1))), some (.int (Int32.ofInt 1)), some (.ref k2), some (.int (Int32.ofInt (s + 86400)))], [.int (Int32.ofInt 1), .ref k2, .int (Int32.ofInt (s + 86400))], h2)) rfl ?_
      refine yy_fin.lp rfl o2 rfl (by decide : (Int32.ofInt 1).toNatClampNeg = 1) rfl ?_
      refine yy_fin.ic rfl (fun c22 => ?_) (fun c22 => ?_)
      · have c22 := (yi_c_ge (a := s + 86400) (b := b2 + l2) (by omega) (by omega)).mp c22
        refine yy_fin.steps (n := 1) (s' := (104, [some (.ref w), some (.int (Int32.ofInt (t : Int))), some (.int (Int32.ofInt day)), some (.int (Int32.ofInt s)), some (.int (Int32.ofInt (day - 1))), some (.int (Int32.ofInt 1 + Int32.ofInt 1)), some (.ref k2), some (.int (Int32.ofInt (s + 86400)))], [], h2)) rfl ?_
        rw [yi_add 1 1, show (1 : Int) + 1 = 2 by decide]
        refine yy_fin.steps (n := 3) (s' := (29, [some (.ref w), some (.int (Int32.ofInt (t : Int))), some (.int (Int32.ofInt day)), some (.int (Int32.ofInt s)), some (.int (Int32.ofInt (day - 1))), some (.int (Int32.ofInt 2)), some (.ref k2), some (.int (Int32.ofInt (s + 86400)))], [.int (Int32.ofInt 2), .int (Int32.ofInt 2)], h2)) rfl ?_
        refine yy_fin.ic rfl (fun cK => ?_) (fun cK => absurd (by decide) cK)
        refine yy_fin.steps (n := 1) (s' := (110, [some (.ref w), some (.int (Int32.ofInt (t : Int))), some (.int (Int32.ofInt day)), some (.int (Int32.ofInt s)), some (.int (Int32.ofInt (day - 1) + Int32.ofInt 1)), some (.int (Int32.ofInt 2)), some (.ref k2), some (.int (Int32.ofInt (s + 86400)))], [], h2)) rfl ?_
        rw [yi_add (day - 1) 1, show day - 1 + 1 = day by omega]
        refine yy_fin.steps (n := 3) (s' := (20, [some (.ref w), some (.int (Int32.ofInt (t : Int))), some (.int (Int32.ofInt day)), some (.int (Int32.ofInt s)), some (.int (Int32.ofInt day)), some (.int (Int32.ofInt 2)), some (.ref k2), some (.int (Int32.ofInt (s + 86400)))], [.int (Int32.ofInt day), .int (Int32.ofInt day)], h2)) rfl ?_
        refine yy_fin.ic rfl (fun cq => absurd ((yi_c_gt (a := day) (b := day) (by omega) (by omega)).mp cq) (by omega)) (fun cq => ?_)
        have cq := mt (yi_c_gt (a := day) (b := day) (by omega) (by omega)).mpr cq
        refine yy_fin.steps (n := 4) (s' := (29, [some (.ref w), some (.int (Int32.ofInt (t : Int))), some (.int (Int32.ofInt day)), some (.int (Int32.ofInt s)), some (.int (Int32.ofInt day)), some (.int (Int32.ofInt 0)), some (.ref k2), some (.int (Int32.ofInt (s + 86400)))], [.int (Int32.ofInt 2), .int (Int32.ofInt 0)], h2)) rfl ?_
        refine yy_fin.ic rfl (fun cK => absurd cK (by decide)) (fun cK => ?_)
        refine yy_fin.steps (n := 4) (s' := (38, [some (.ref w), some (.int (Int32.ofInt (t : Int))), some (.int (Int32.ofInt day)), some (.int (Int32.ofInt s)), some (.int (Int32.ofInt day)), some (.int (Int32.ofInt 0)), some (.ref k2), some (.int (Int32.ofInt (s + 86400)))], [.int (Int32.ofInt 0), .int (Int32.ofInt day), .int (Int32.ofInt (t : Int)), .ref w], h2)) rfl ?_
        refine yy_fin.cv (as := [.int (Int32.ofInt (t : Int)), .int (Int32.ofInt day), .int (Int32.ofInt 0)]) rfl rfl rfl oW2 (Nat.le_of_ble_eq_true rfl) (Nat.le_of_ble_eq_true rfl) (yw_half W2 ok (by omega) (Or.inl rfl) (by have := y2.1; omega) (y2.zr hz)) ?_
        rintro v3 h3 ⟨x3, r3⟩
        have W3 := W2.f x3
        have oW3 := oW2.x x3 id
        have y3 : yx yF 9 18 h h3 := (y2.tr x3 (fun _ _ e => e)).le (Nat.le_refl _) (Nat.le_refl _)
        cases e3 : tw_H T c day 0 with
        | none =>
          obtain ⟨-, b0, l0, f1, f2⟩ := tw_H_1 e2
          rw [show day - 1 + 1 = day by omega, e3] at f1
          cases f1
        | some p3 =>
          obtain ⟨b3, l3⟩ := p3
          rw [e3] at r3
          obtain ⟨k3, rfl, -, o3⟩ := r3
          have bd3 := tw_H_b ok e3
          have bd3b := bd3.2.2.2.1 (by decide)
          obtain ⟨-, b0, l0, f1, f2⟩ := tw_H_1 e2
          rw [show day - 1 + 1 = day by omega, e3] at f1
          have f3 := congrArg Prod.fst (Option.some.inj f1)
          dsimp only at f3
          refine yy_fin.steps (n := 1) (s' := (43, [some (.ref w), some (.int (Int32.ofInt (t : Int))), some (.int (Int32.ofInt day)), some (.int (Int32.ofInt s)), some (.int (Int32.ofInt day)), some (.int (Int32.ofInt 0)), some (.ref k3), some (.int (Int32.ofInt (s + 86400)))], [], h3)) rfl ?_
          refine yy_fin.steps (n := 8) (s' := (54, [some (.ref w), some (.int (Int32.ofInt (t : Int))), some (.int (Int32.ofInt day)), some (.int (Int32.ofInt s)), some (.int (Int32.ofInt day)), some (.int (Int32.ofInt 0)), some (.ref k3), some (.int (Int32.ofInt s + Int32.ofInt 86400 * (Int32.ofInt day - Int32.ofInt day)))], [], h3)) rfl ?_
          rw [yi_sub day day, yi_mul 86400 (day - day), yi_add s (86400 * (day - day)), show s + 86400 * (day - day) = s by omega]
          refine yy_fin.steps (n := 5) (s' := (64, [some (.ref w), some (.int (Int32.ofInt (t : Int))), some (.int (Int32.ofInt day)), some (.int (Int32.ofInt s)), some (.int (Int32.ofInt day)), some (.int (Int32.ofInt 0)), some (.ref k3), some (.int (Int32.ofInt s))], [.int (Int32.ofInt 0), .ref k3, .int (Int32.ofInt s)], h3)) rfl ?_
          refine yy_fin.lp rfl o3 rfl (by decide : (Int32.ofInt 0).toNatClampNeg = 0) rfl ?_
          refine yy_fin.ic rfl (fun cq => absurd ((yi_c_lt (a := s) (b := b3) (by omega) (by omega)).mp cq) (by omega)) (fun cq => ?_)
          have cq := mt (yi_c_lt (a := s) (b := b3) (by omega) (by omega)).mpr cq
          refine yy_fin.steps (n := 3) (s' := (73, [some (.ref w), some (.int (Int32.ofInt (t : Int))), some (.int (Int32.ofInt day)), some (.int (Int32.ofInt s)), some (.int (Int32.ofInt day)), some (.int (Int32.ofInt 0)), some (.ref k3), some (.int (Int32.ofInt s))], [.int (Int32.ofInt 1), .ref k3, .int (Int32.ofInt s)], h3)) rfl ?_
          refine yy_fin.lp rfl o3 rfl (by decide : (Int32.ofInt 1).toNatClampNeg = 1) rfl ?_
          refine yy_fin.ic rfl (fun c23 => ?_) (fun c23 => ?_)
          · have c23 := (yi_c_ge (a := s) (b := b3 + l3) (by omega) (by omega)).mp c23
            refine yy_fin.steps (n := 1) (s' := (104, [some (.ref w), some (.int (Int32.ofInt (t : Int))), some (.int (Int32.ofInt day)), some (.int (Int32.ofInt s)), some (.int (Int32.ofInt day)), some (.int (Int32.ofInt 0 + Int32.ofInt 1)), some (.ref k3), some (.int (Int32.ofInt s))], [], h3)) rfl ?_
            rw [yi_add 0 1, show (0 : Int) + 1 = 1 by decide]
            refine yy_fin.steps (n := 3) (s' := (29, [some (.ref w), some (.int (Int32.ofInt (t : Int))), some (.int (Int32.ofInt day)), some (.int (Int32.ofInt s)), some (.int (Int32.ofInt day)), some (.int (Int32.ofInt 1)), some (.ref k3), some (.int (Int32.ofInt s))], [.int (Int32.ofInt 2), .int (Int32.ofInt 1)], h3)) rfl ?_
            refine yy_fin.ic rfl (fun cK => absurd cK (by decide)) (fun cK => ?_)
            refine yy_fin.steps (n := 4) (s' := (38, [some (.ref w), some (.int (Int32.ofInt (t : Int))), some (.int (Int32.ofInt day)), some (.int (Int32.ofInt s)), some (.int (Int32.ofInt day)), some (.int (Int32.ofInt 1)), some (.ref k3), some (.int (Int32.ofInt s))], [.int (Int32.ofInt 1), .int (Int32.ofInt day), .int (Int32.ofInt (t : Int)), .ref w], h3)) rfl ?_
            refine yy_fin.cv (as := [.int (Int32.ofInt (t : Int)), .int (Int32.ofInt day), .int (Int32.ofInt 1)]) rfl rfl rfl oW3 (Nat.le_of_ble_eq_true rfl) (Nat.le_of_ble_eq_true rfl) (yw_half W3 ok (by omega) (Or.inr rfl) (by have := y3.1; omega) (y3.zr hz)) ?_
            rintro v4 h4 ⟨x4, r4⟩
            have W4 := W3.f x4
            have oW4 := oW3.x x4 id
            have y4 : yx yF 12 24 h h4 := (y3.tr x4 (fun _ _ e => e)).le (Nat.le_refl _) (Nat.le_refl _)
            cases e4 : tw_H T c day 1 with
            | none =>
              rw [e4] at r4
              cases r4
              refine yy_fin.steps (n := 1) (s' := (43, [some (.ref w), some (.int (Int32.ofInt (t : Int))), some (.int (Int32.ofInt day)), some (.int (Int32.ofInt s)), some (.int (Int32.ofInt day)), some (.int (Int32.ofInt 1)), some (.null), some (.int (Int32.ofInt s))], [], h4)) rfl ?_
              refine yy_fin.steps (n := 8) (s' := (54, [some (.ref w), some (.int (Int32.ofInt (t : Int))), some (.int (Int32.ofInt day)), some (.int (Int32.ofInt s)), some (.int (Int32.ofInt day)), some (.int (Int32.ofInt 1)), some (.null), some (.int (Int32.ofInt s + Int32.ofInt 86400 * (Int32.ofInt day - Int32.ofInt day)))], [], h4)) rfl ?_
              rw [yi_sub day day, yi_mul 86400 (day - day), yi_add s (86400 * (day - day)), show s + 86400 * (day - day) = s by omega]
              refine yy_fin.steps (n := 2) (s' := (101, [some (.ref w), some (.int (Int32.ofInt (t : Int))), some (.int (Int32.ofInt day)), some (.int (Int32.ofInt s)), some (.int (Int32.ofInt day)), some (.int (Int32.ofInt 1)), some (.null), some (.int (Int32.ofInt s))], [], h4)) rfl ?_
              refine yy_fin.steps (n := 1) (s' := (104, [some (.ref w), some (.int (Int32.ofInt (t : Int))), some (.int (Int32.ofInt day)), some (.int (Int32.ofInt s)), some (.int (Int32.ofInt day)), some (.int (Int32.ofInt 1 + Int32.ofInt 1)), some (.null), some (.int (Int32.ofInt s))], [], h4)) rfl ?_
              rw [yi_add 1 1, show (1 : Int) + 1 = 2 by decide]
              refine yy_fin.steps (n := 3) (s' := (29, [some (.ref w), some (.int (Int32.ofInt (t : Int))), some (.int (Int32.ofInt day)), some (.int (Int32.ofInt s)), some (.int (Int32.ofInt day)), some (.int (Int32.ofInt 2)), some (.null), some (.int (Int32.ofInt s))], [.int (Int32.ofInt 2), .int (Int32.ofInt 2)], h4)) rfl ?_
              refine yy_fin.ic rfl (fun cK => ?_) (fun cK => absurd (by decide) cK)
              refine yy_fin.steps (n := 4) (s' := (20, [some (.ref w), some (.int (Int32.ofInt (t : Int))), some (.int (Int32.ofInt day)), some (.int (Int32.ofInt s)), some (.int ((Int32.ofInt day) + (Int32.ofInt 1))), some (.int (Int32.ofInt 2)), some (.null), some (.int (Int32.ofInt s))], [.int (Int32.ofInt day), .int ((Int32.ofInt day) + (Int32.ofInt 1))], h4)) rfl ?_
              rw [yi_add day 1]
              refine yy_fin.ic rfl (fun cq => ?_) (fun cq => absurd ((yi_c_gt (a := day + 1) (b := day) (by omega) (by omega)).mpr (by omega)) cq)
              have cq := (yi_c_gt (a := day + 1) (b := day) (by omega) (by omega)).mp cq
              refine yy_fin.steps (n := 1) (s' := (114, [some (.ref w), some (.int (Int32.ofInt (t : Int))), some (.int (Int32.ofInt day)), some (.int (Int32.ofInt s)), some (.int (Int32.ofInt (day + 1))), some (.int (Int32.ofInt 2)), some (.null), some (.int (Int32.ofInt s))], [.null], h4)) rfl ?_
              have eR : wt_P T c day s = none := by
                unfold wt_P
                rw [e3]
                dsimp only
                rw [if_neg (by omega), if_neg (by omega), e4]
                rfl
              rw [eR]
              exact yy_fin.at (n := 1) rfl ⟨y4.le (by decide) (by decide), rfl⟩
            | some p4 =>
              obtain ⟨b4, l4⟩ := p4
              rw [e4] at r4
              obtain ⟨k4, rfl, -, o4⟩ := r4
              have bd4 := tw_H_b ok e4
              have bd4b := bd4.2.2.2.2 rfl
              obtain ⟨⟨b0, l0, f1, f2⟩, -⟩ := tw_H_1 e4
              rw [e3] at f1
              have f3 := congrArg Prod.fst (Option.some.inj f1)
              have f4 := congrArg Prod.snd (Option.some.inj f1)
              dsimp only at f3 f4
              refine yy_fin.steps (n := 1) (s' := (43, [some (.ref w), some (.int (Int32.ofInt (t : Int))), some (.int (Int32.ofInt day)), some (.int (Int32.ofInt s)), some (.int (Int32.ofInt day)), some (.int (Int32.ofInt 1)), some (.ref k4), some (.int (Int32.ofInt s))], [], h4)) rfl ?_
              refine yy_fin.steps (n := 8) (s' := (54, [some (.ref w), some (.int (Int32.ofInt (t : Int))), some (.int (Int32.ofInt day)), some (.int (Int32.ofInt s)), some (.int (Int32.ofInt day)), some (.int (Int32.ofInt 1)), some (.ref k4), some (.int (Int32.ofInt s + Int32.ofInt 86400 * (Int32.ofInt day - Int32.ofInt day)))], [], h4)) rfl ?_
              rw [yi_sub day day, yi_mul 86400 (day - day), yi_add s (86400 * (day - day)), show s + 86400 * (day - day) = s by omega]
              refine yy_fin.steps (n := 5) (s' := (64, [some (.ref w), some (.int (Int32.ofInt (t : Int))), some (.int (Int32.ofInt day)), some (.int (Int32.ofInt s)), some (.int (Int32.ofInt day)), some (.int (Int32.ofInt 1)), some (.ref k4), some (.int (Int32.ofInt s))], [.int (Int32.ofInt 0), .ref k4, .int (Int32.ofInt s)], h4)) rfl ?_
              refine yy_fin.lp rfl o4 rfl (by decide : (Int32.ofInt 0).toNatClampNeg = 0) rfl ?_
              refine yy_fin.ic rfl (fun cq => absurd ((yi_c_lt (a := s) (b := b4) (by omega) (by omega)).mp cq) (by omega)) (fun cq => ?_)
              have cq := mt (yi_c_lt (a := s) (b := b4) (by omega) (by omega)).mpr cq
              refine yy_fin.steps (n := 3) (s' := (73, [some (.ref w), some (.int (Int32.ofInt (t : Int))), some (.int (Int32.ofInt day)), some (.int (Int32.ofInt s)), some (.int (Int32.ofInt day)), some (.int (Int32.ofInt 1)), some (.ref k4), some (.int (Int32.ofInt s))], [.int (Int32.ofInt 1), .ref k4, .int (Int32.ofInt s)], h4)) rfl ?_
              refine yy_fin.lp rfl o4 rfl (by decide : (Int32.ofInt 1).toNatClampNeg = 1) rfl ?_
              refine yy_fin.ic rfl (fun cq => absurd ((yi_c_ge (a := s) (b := b4 + l4) (by omega) (by omega)).mp cq) (by omega)) (fun cq => ?_)
              have cq := mt (yi_c_ge (a := s) (b := b4 + l4) (by omega) (by omega)).mpr cq
              refine yy_fin.steps (n := 1) (s' := (78, [some (.ref w), some (.int (Int32.ofInt (t : Int))), some (.int (Int32.ofInt day)), some (.int (Int32.ofInt s)), some (.int (Int32.ofInt day)), some (.int (Int32.ofInt 1)), some (.ref k4), some (.int (Int32.ofInt s))], [.int (Int32.ofInt 3)], h4)) rfl ?_
              refine yy_fin.ni (n := 3) rfl (by decide) (by decide) (by decide) (by have := y4.1; omega) (y4.zr hz) fun h5 x5 e5 i5 z5 => ?_
              have q5 : yQ h5 (h4.1.1 + 1) 3 [] := ⟨i5, fun j v e => nomatch e⟩
              have o4n := o4.x x5 id
              have nle := o4.le
              have hle := y4.1
              refine yy_fin.steps (n := 3) (s' := (84, [some (.ref w), some (.int (Int32.ofInt (t : Int))), some (.int (Int32.ofInt day)), some (.int (Int32.ofInt s)), some (.int (Int32.ofInt day)), some (.int (Int32.ofInt 1)), some (.ref k4), some (.int (Int32.ofInt s))], [.int (Int32.ofInt day), .int (Int32.ofInt 0), .ref (h4.1.1 + 1), .ref (h4.1.1 + 1)], h5)) rfl ?_
              refine yy_fin.sq rfl q5 (by decide) rfl fun h6 x6 q6 => ?_
              have o4n := o4n.x x6 (by omega)
              refine yy_fin.steps (n := 3) (s' := (89, [some (.ref w), some (.int (Int32.ofInt (t : Int))), some (.int (Int32.ofInt day)), some (.int (Int32.ofInt s)), some (.int (Int32.ofInt day)), some (.int (Int32.ofInt 1)), some (.ref k4), some (.int (Int32.ofInt s))], [.int (Int32.ofInt 1), .int (Int32.ofInt 1), .ref (h4.1.1 + 1), .ref (h4.1.1 + 1)], h6)) rfl ?_
              refine yy_fin.sq rfl q6 (by decide) rfl fun h7 x7 q7 => ?_
              have o4n := o4n.x x7 (by omega)
              refine yy_fin.steps (n := 5) (s' := (97, [some (.ref w), some (.int (Int32.ofInt (t : Int))), some (.int (Int32.ofInt day)), some (.int (Int32.ofInt s)), some (.int (Int32.ofInt day)), some (.int (Int32.ofInt 1)), some (.ref k4), some (.int (Int32.ofInt s))], [.int (Int32.ofInt 0), .ref k4, .int (Int32.ofInt s), .int (Int32.ofInt 2), .ref (h4.1.1 + 1), .ref (h4.1.1 + 1)], h7)) rfl ?_
              refine yy_fin.lp rfl o4n rfl (by decide : (Int32.ofInt 0).toNatClampNeg = 0) rfl ?_
              refine yy_fin.steps (n := 1) (s' := (99, [some (.ref w), some (.int (Int32.ofInt (t : Int))), some (.int (Int32.ofInt day)), some (.int (Int32.ofInt s)), some (.int (Int32.ofInt day)), some (.int (Int32.ofInt 1)), some (.ref k4), some (.int (Int32.ofInt s))], [.int ((Int32.ofInt s) - (Int32.ofInt b4)), .int (Int32.ofInt 2), .ref (h4.1.1 + 1), .ref (h4.1.1 + 1)], h7)) rfl ?_
              rw [yi_sub s b4]
              refine yy_fin.sq rfl q7 (by decide) rfl fun h8 x8 q8 => ?_
              have eR : wt_P T c day s = some (day, 1, b4, l4) := by
                unfold wt_P
                rw [e3]
                dsimp only
                rw [if_neg (by omega), if_neg (by omega), e4]
                rfl
              rw [eR]
              exact yy_fin.at (n := 1) rfl ⟨((((y4.tr x5 (fun _ _ e => e)).tr x6 (fun q hq e => by omega)).tr x7 (fun q hq e => by omega)).tr x8 (fun q hq e => by omega)).le (by decide) (by decide), h4.1.1 + 1, rfl, by omega, by (try dsimp only); rw [show s + 86400 * (day - day) - b4 = s - b4 by omega]; exact q8⟩
          · have c23 := mt (yi_c_ge (a := s) (b := b3 + l3) (by omega) (by omega)).mpr c23
            refine yy_fin.steps (n := 1) (s' := (78, [some (.ref w), some (.int (Int32.ofInt (t : Int))), some (.int (Int32.ofInt day)), some (.int (Int32.ofInt s)), some (.int (Int32.ofInt day)), some (.int (Int32.ofInt 0)), some (.ref k3), some (.int (Int32.ofInt s))], [.int (Int32.ofInt 3)], h3)) rfl ?_
            refine yy_fin.ni (n := 3) rfl (by decide) (by decide) (by decide) (by have := y3.1; omega) (y3.zr hz) fun h5 x5 e5 i5 z5 => ?_
            have q5 : yQ h5 (h3.1.1 + 1) 3 [] := ⟨i5, fun j v e => nomatch e⟩
            have o3n := o3.x x5 id
            have nle := o3.le
            have hle := y3.1
            refine yy_fin.steps (n := 3) (s' := (84, [some (.ref w), some (.int (Int32.ofInt (t : Int))), some (.int (Int32.ofInt day)), some (.int (Int32.ofInt s)), some (.int (Int32.ofInt day)), some (.int (Int32.ofInt 0)), some (.ref k3), some (.int (Int32.ofInt s))], [.int (Int32.ofInt day), .int (Int32.ofInt 0), .ref (h3.1.1 + 1), .ref (h3.1.1 + 1)], h5)) rfl ?_
            refine yy_fin.sq rfl q5 (by decide) rfl fun h6 x6 q6 => ?_
            have o3n := o3n.x x6 (by omega)
            refine yy_fin.steps (n := 3) (s' := (89, [some (.ref w), some (.int (Int32.ofInt (t : Int))), some (.int (Int32.ofInt day)), some (.int (Int32.ofInt s)), some (.int (Int32.ofInt day)), some (.int (Int32.ofInt 0)), some (.ref k3), some (.int (Int32.ofInt s))], [.int (Int32.ofInt 0), .int (Int32.ofInt 1), .ref (h3.1.1 + 1), .ref (h3.1.1 + 1)], h6)) rfl ?_
            refine yy_fin.sq rfl q6 (by decide) rfl fun h7 x7 q7 => ?_
            have o3n := o3n.x x7 (by omega)
            refine yy_fin.steps (n := 5) (s' := (97, [some (.ref w), some (.int (Int32.ofInt (t : Int))), some (.int (Int32.ofInt day)), some (.int (Int32.ofInt s)), some (.int (Int32.ofInt day)), some (.int (Int32.ofInt 0)), some (.ref k3), some (.int (Int32.ofInt s))], [.int (Int32.ofInt 0), .ref k3, .int (Int32.ofInt s), .int (Int32.ofInt 2), .ref (h3.1.1 + 1), .ref (h3.1.1 + 1)], h7)) rfl ?_
            refine yy_fin.lp rfl o3n rfl (by decide : (Int32.ofInt 0).toNatClampNeg = 0) rfl ?_
            refine yy_fin.steps (n := 1) (s' := (99, [some (.ref w), some (.int (Int32.ofInt (t : Int))), some (.int (Int32.ofInt day)), some (.int (Int32.ofInt s)), some (.int (Int32.ofInt day)), some (.int (Int32.ofInt 0)), some (.ref k3), some (.int (Int32.ofInt s))], [.int ((Int32.ofInt s) - (Int32.ofInt b3)), .int (Int32.ofInt 2), .ref (h3.1.1 + 1), .ref (h3.1.1 + 1)], h7)) rfl ?_
            rw [yi_sub s b3]
            refine yy_fin.sq rfl q7 (by decide) rfl fun h8 x8 q8 => ?_
            have eR : wt_P T c day s = some (day, 0, b3, l3) := by
              unfold wt_P
              rw [e3]
              dsimp only
              rw [if_neg (by omega), if_pos (by omega)]
            rw [eR]
            exact yy_fin.at (n := 1) rfl ⟨((((y3.tr x5 (fun _ _ e => e)).tr x6 (fun q hq e => by omega)).tr x7 (fun q hq e => by omega)).tr x8 (fun q hq e => by omega)).le (by decide) (by decide), h3.1.1 + 1, rfl, by omega, by (try dsimp only); rw [show s + 86400 * (day - day) - b3 = s - b3 by omega]; exact q8⟩
      · have c22 := mt (yi_c_ge (a := s + 86400) (b := b2 + l2) (by omega) (by omega)).mpr c22
        refine yy_fin.steps (n := 1) (s' := (78, [some (.ref w), some (.int (Int32.ofInt (t : Int))), some (.int (Int32.ofInt day)), some (.int (Int32.ofInt s)), some (.int (Int32.ofInt (day - 1))), some (.int (Int32.ofInt 1)), some (.ref k2), some (.int (Int32.ofInt (s + 86400)))], [.int (Int32.ofInt 3)], h2)) rfl ?_
        refine yy_fin.ni (n := 3) rfl (by decide) (by decide) (by decide) (by have := y2.1; omega) (y2.zr hz) fun h5 x5 e5 i5 z5 => ?_
        have q5 : yQ h5 (h2.1.1 + 1) 3 [] := ⟨i5, fun j v e => nomatch e⟩
        have o2n := o2.x x5 id
        have nle := o2.le
        have hle := y2.1
        refine yy_fin.steps (n := 3) (s' := (84, [some (.ref w), some (.int (Int32.ofInt (t : Int))), some (.int (Int32.ofInt day)), some (.int (Int32.ofInt s)), some (.int (Int32.ofInt (day - 1))), some (.int (Int32.ofInt 1)), some (.ref k2), some (.int (Int32.ofInt (s + 86400)))], [.int (Int32.ofInt (day - 1)), .int (Int32.ofInt 0), .ref (h2.1.1 + 1), .ref (h2.1.1 + 1)], h5)) rfl ?_
        refine yy_fin.sq rfl q5 (by decide) rfl fun h6 x6 q6 => ?_
        have o2n := o2n.x x6 (by omega)
        refine yy_fin.steps (n := 3) (s' := (89, [some (.ref w), some (.int (Int32.ofInt (t : Int))), some (.int (Int32.ofInt day)), some (.int (Int32.ofInt s)), some (.int (Int32.ofInt (day - 1))), some (.int (Int32.ofInt 1)), some (.ref k2), some (.int (Int32.ofInt (s + 86400)))], [.int (Int32.ofInt 1), .int (Int32.ofInt 1), .ref (h2.1.1 + 1), .ref (h2.1.1 + 1)], h6)) rfl ?_
        refine yy_fin.sq rfl q6 (by decide) rfl fun h7 x7 q7 => ?_
        have o2n := o2n.x x7 (by omega)
        refine yy_fin.steps (n := 5) (s' := (97, [some (.ref w), some (.int (Int32.ofInt (t : Int))), some (.int (Int32.ofInt day)), some (.int (Int32.ofInt s)), some (.int (Int32.ofInt (day - 1))), some (.int (Int32.ofInt 1)), some (.ref k2), some (.int (Int32.ofInt (s + 86400)))], [.int (Int32.ofInt 0), .ref k2, .int (Int32.ofInt (s + 86400)), .int (Int32.ofInt 2), .ref (h2.1.1 + 1), .ref (h2.1.1 + 1)], h7)) rfl ?_
        refine yy_fin.lp rfl o2n rfl (by decide : (Int32.ofInt 0).toNatClampNeg = 0) rfl ?_
        refine yy_fin.steps (n := 1) (s' := (99, [some (.ref w), some (.int (Int32.ofInt (t : Int))), some (.int (Int32.ofInt day)), some (.int (Int32.ofInt s)), some (.int (Int32.ofInt (day - 1))), some (.int (Int32.ofInt 1)), some (.ref k2), some (.int (Int32.ofInt (s + 86400)))], [.int ((Int32.ofInt (s + 86400)) - (Int32.ofInt b2)), .int (Int32.ofInt 2), .ref (h2.1.1 + 1), .ref (h2.1.1 + 1)], h7)) rfl ?_
        rw [yi_sub (s + 86400) b2]
        refine yy_fin.sq rfl q7 (by decide) rfl fun h8 x8 q8 => ?_
        have eR : wt_P T c day s = some (day - 1, 1, b2, l2) := by
          obtain ⟨-, b0, l0, f1, f2⟩ := tw_H_1 e2
          rw [show day - 1 + 1 = day by omega] at f1
          unfold wt_P
          rw [f1]
          dsimp only
          rw [if_pos (by omega), e2]
          rfl
        rw [eR]
        exact yy_fin.at (n := 1) rfl ⟨((((y2.tr x5 (fun _ _ e => e)).tr x6 (fun q hq e => by omega)).tr x7 (fun q hq e => by omega)).tr x8 (fun q hq e => by omega)).le (by decide) (by decide), h2.1.1 + 1, rfl, by omega, by (try dsimp only); rw [show s + 86400 * (day - (day - 1)) - b2 = s + 86400 - b2 by omega]; exact q8⟩
  | some p1 =>
    obtain ⟨b1, l1⟩ := p1
    rw [e1] at r1
    obtain ⟨k1, rfl, -, o1⟩ := r1
    have bd1 := tw_H_b ok e1
    have bd1b := bd1.2.2.2.1 (by decide)
    refine yy_fin.steps (n := 1) (s' := (43, [some (.ref w), some (.int (Int32.ofInt (t : Int))), some (.int (Int32.ofInt day)), some (.int (Int32.ofInt s)), some (.int (Int32.ofInt (day - 1))), some (.int (Int32.ofInt 0)), some (.ref k1), none], [], h1)) rfl ?_
    refine yy_fin.steps (n := 8) (s' := (54, [some (.ref w), some (.int (Int32.ofInt (t : Int))), some (.int (Int32.ofInt day)), some (.int (Int32.ofInt s)), some (.int (Int32.ofInt (day - 1))), some (.int (Int32.ofInt 0)), some (.ref k1), some (.int (Int32.ofInt s + Int32.ofInt 86400 * (Int32.ofInt day - Int32.ofInt (day - 1))))], [], h1)) rfl ?_
    rw [yi_sub day (day - 1), yi_mul 86400 (day - (day - 1)), yi_add s (86400 * (day - (day - 1))), show s + 86400 * (day - (day - 1)) = s + 86400 by omega]
    refine yy_fin.steps (n := 5) (s' := (64, [some (.ref w), some (.int (Int32.ofInt (t : Int))), some (.int (Int32.ofInt day)), some (.int (Int32.ofInt s)), some (.int (Int32.ofInt (day - 1))), some (.int (Int32.ofInt 0)), some (.ref k1), some (.int (Int32.ofInt (s + 86400)))], [.int (Int32.ofInt 0), .ref k1, .int (Int32.ofInt (s + 86400))], h1)) rfl ?_
    refine yy_fin.lp rfl o1 rfl (by decide : (Int32.ofInt 0).toNatClampNeg = 0) rfl ?_
    refine yy_fin.ic rfl (fun cq => absurd ((yi_c_lt (a := s + 86400) (b := b1) (by omega) (by omega)).mp cq) (by omega)) (fun cq => ?_)
    have cq := mt (yi_c_lt (a := s + 86400) (b := b1) (by omega) (by omega)).mpr cq
    refine yy_fin.steps (n := 3) (s' := (73, [some (.ref w), some (.int (Int32.ofInt (t : Int))), some (.int (Int32.ofInt day)), some (.int (Int32.ofInt s)), some (.int (Int32.ofInt (day - 1))), some (.int (Int32.ofInt 0)), some (.ref k1), some (.int (Int32.ofInt (s + 86400)))], [.int (Int32.ofInt 1), .ref k1, .int (Int32.ofInt (s + 86400))], h1)) rfl ?_
    refine yy_fin.lp rfl o1 rfl (by decide : (Int32.ofInt 1).toNatClampNeg = 1) rfl ?_
    refine yy_fin.ic rfl (fun cq => ?_) (fun cq => absurd ((yi_c_ge (a := s + 86400) (b := b1 + l1) (by omega) (by omega)).mpr (by omega)) cq)
    have cq := (yi_c_ge (a := s + 86400) (b := b1 + l1) (by omega) (by omega)).mp cq
    refine yy_fin.steps (n := 1) (s' := (104, [some (.ref w), some (.int (Int32.ofInt (t : Int))), some (.int (Int32.ofInt day)), some (.int (Int32.ofInt s)), some (.int (Int32.ofInt (day - 1))), some (.int (Int32.ofInt 0 + Int32.ofInt 1)), some (.ref k1), some (.int (Int32.ofInt (s + 86400)))], [], h1)) rfl ?_
    rw [yi_add 0 1, show (0 : Int) + 1 = 1 by decide]
    refine yy_fin.steps (n := 3) (s' := (29, [some (.ref w), some (.int (Int32.ofInt (t : Int))), some (.int (Int32.ofInt day)), some (.int (Int32.ofInt s)), some (.int (Int32.ofInt (day - 1))), some (.int (Int32.ofInt 1)), some (.ref k1), some (.int (Int32.ofInt (s + 86400)))], [.int (Int32.ofInt 2), .int (Int32.ofInt 1)], h1)) rfl ?_
    refine yy_fin.ic rfl (fun cK => absurd cK (by decide)) (fun cK => ?_)
    refine yy_fin.steps (n := 4) (s' := (38, [some (.ref w), some (.int (Int32.ofInt (t : Int))), some (.int (Int32.ofInt day)), some (.int (Int32.ofInt s)), some (.int (Int32.ofInt (day - 1))), some (.int (Int32.ofInt 1)), some (.ref k1), some (.int (Int32.ofInt (s + 86400)))], [.int (Int32.ofInt 1), .int (Int32.ofInt (day - 1)), .int (Int32.ofInt (t : Int)), .ref w], h1)) rfl ?_
    refine yy_fin.cv (as := [.int (Int32.ofInt (t : Int)), .int (Int32.ofInt (day - 1)), .int (Int32.ofInt 1)]) rfl rfl rfl oW1 (Nat.le_of_ble_eq_true rfl) (Nat.le_of_ble_eq_true rfl) (yw_half W1 ok (by omega) (Or.inr rfl) (by have := y1.1; omega) (y1.zr hz)) ?_
    rintro v2 h2 ⟨x2, r2⟩
    have W2 := W1.f x2
    have oW2 := oW1.x x2 id
    have y2 : yx yF 6 12 h h2 := (y1.tr x2 (fun _ _ e => e)).le (Nat.le_refl _) (Nat.le_refl _)
    cases e2 : tw_H T c (day - 1) 1 with
    | none =>
      rw [e2] at r2
      cases r2
      refine yy_fin.steps (n := 1) (s' := (43, [some (.ref w), some (.int (Int32.ofInt (t : Int))), some (.int (Int32.ofInt day)), some (.int (Int32.ofInt s)), some (.int (Int32.ofInt (day - 1))), some (.int (Int32.ofInt 1)), some (.null), some (.int (Int32.ofInt (s + 86400)))], [], h2)) rfl ?_
      refine yy_fin.steps (n := 8) (s' := (54, [some (.ref w), some (.int (Int32.ofInt (t : Int))), some (.int (Int32.ofInt day)), some (.int (Int32.ofInt s)), some (.int (Int32.ofInt (day - 1))), some (.int (Int32.ofInt 1)), some (.null), some (.int (Int32.ofInt s + Int32.ofInt 86400 * (Int32.ofInt day - Int32.ofInt (day - 1))))], [], h2)) rfl ?_
      rw [yi_sub day (day - 1), yi_mul 86400 (day - (day - 1)), yi_add s (86400 * (day - (day - 1))), show s + 86400 * (day - (day - 1)) = s + 86400 by omega]
      refine yy_fin.steps (n := 2) (s' := (101, [some (.ref w), some (.int (Int32.ofInt (t : Int))), some (.int (Int32.ofInt day)), some (.int (Int32.ofInt s)), some (.int (Int32.ofInt (day - 1))), some (.int (Int32.ofInt 1)), some (.null), some (.int (Int32.ofInt (s + 86400)))], [], h2)) rfl ?_
      refine yy_fin.steps (n := 1) (s' := (104, [some (.ref w), some (.int (Int32.ofInt (t : Int))), some (.int (Int32.ofInt day)), some (.int (Int32.ofInt s)), some (.int (Int32.ofInt (day - 1))), some (.int (Int32.ofInt 1 + Int32.ofInt 1)), some (.null), some (.int (Int32.ofInt (s + 86400)))], [], h2)) rfl ?_
      rw [yi_add 1 1, show (1 : Int) + 1 = 2 by decide]
      refine yy_fin.steps (n := 3) (s' := (29, [some (.ref w), some (.int (Int32.ofInt (t : Int))), some (.int (Int32.ofInt day)), some (.int (Int32.ofInt s)), some (.int (Int32.ofInt (day - 1))), some (.int (Int32.ofInt 2)), some (.null), some (.int (Int32.ofInt (s + 86400)))], [.int (Int32.ofInt 2), .int (Int32.ofInt 2)], h2)) rfl ?_
      refine yy_fin.ic rfl (fun cK => ?_) (fun cK => absurd (by decide) cK)
      refine yy_fin.steps (n := 1) (s' := (110, [some (.ref w), some (.int (Int32.ofInt (t : Int))), some (.int (Int32.ofInt day)), some (.int (Int32.ofInt s)), some (.int (Int32.ofInt (day - 1) + Int32.ofInt 1)), some (.int (Int32.ofInt 2)), some (.null), some (.int (Int32.ofInt (s + 86400)))], [], h2)) rfl ?_
      rw [yi_add (day - 1) 1, show day - 1 + 1 = day by omega]
      refine yy_fin.steps (n := 3) (s' := (20, [some (.ref w), some (.int (Int32.ofInt (t : Int))), some (.int (Int32.ofInt day)), some (.int (Int32.ofInt s)), some (.int (Int32.ofInt day)), some (.int (Int32.ofInt 2)), some (.null), some (.int (Int32.ofInt (s + 86400)))], [.int (Int32.ofInt day), .int (Int32.ofInt day)], h2)) rfl ?_
      refine yy_fin.ic rfl (fun cq => absurd ((yi_c_gt (a := day) (b := day) (by omega) (by omega)).mp cq) (by omega)) (fun cq => ?_)
      have cq := mt (yi_c_gt (a := day) (b := day) (by omega) (by omega)).mpr cq
      refine yy_fin.steps (n := 4) (s' := (29, [some (.ref w), some (.int (Int32.ofInt (t : Int))), some (.int (Int32.ofInt day)), some (.int (Int32.ofInt s)), some (.int (Int32.ofInt day)), some (.int (Int32.ofInt 0)), some (.null), some (.int (Int32.ofInt (s + 86400)))], [.int (Int32.ofInt 2), .int (Int32.ofInt 0)], h2)) rfl ?_
      refine yy_fin.ic rfl (fun cK => absurd cK (by decide)) (fun cK => ?_)
      refine yy_fin.steps (n := 4) (s' := (38, [some (.ref w), some (.int (Int32.ofInt (t : Int))), some (.int (Int32.ofInt day)), some (.int (Int32.ofInt s)), some (.int (Int32.ofInt day)), some (.int (Int32.ofInt 0)), some (.null), some (.int (Int32.ofInt (s + 86400)))], [.int (Int32.ofInt 0), .int (Int32.ofInt day), .int (Int32.ofInt (t : Int)), .ref w], h2)) rfl ?_
      refine yy_fin.cv (as := [.int (Int32.ofInt (t : Int)), .int (Int32.ofInt day), .int (Int32.ofInt 0)]) rfl rfl rfl oW2 (Nat.le_of_ble_eq_true rfl) (Nat.le_of_ble_eq_true rfl) (yw_half W2 ok (by omega) (Or.inl rfl) (by have := y2.1; omega) (y2.zr hz)) ?_
      rintro v3 h3 ⟨x3, r3⟩
      have W3 := W2.f x3
      have oW3 := oW2.x x3 id
      have y3 : yx yF 9 18 h h3 := (y2.tr x3 (fun _ _ e => e)).le (Nat.le_refl _) (Nat.le_refl _)
      cases e3 : tw_H T c day 0 with
      | none =>
        rw [e3] at r3
        cases r3
        refine yy_fin.steps (n := 1) (s' := (43, [some (.ref w), some (.int (Int32.ofInt (t : Int))), some (.int (Int32.ofInt day)), some (.int (Int32.ofInt s)), some (.int (Int32.ofInt day)), some (.int (Int32.ofInt 0)), some (.null), some (.int (Int32.ofInt (s + 86400)))], [], h3)) rfl ?_
        refine yy_fin.steps (n := 8) (s' := (54, [some (.ref w), some (.int (Int32.ofInt (t : Int))), some (.int (Int32.ofInt day)), some (.int (Int32.ofInt s)), some (.int (Int32.ofInt day)), some (.int (Int32.ofInt 0)), some (.null), some (.int (Int32.ofInt s + Int32.ofInt 86400 * (Int32.ofInt day - Int32.ofInt day)))], [], h3)) rfl ?_
        rw [yi_sub day day, yi_mul 86400 (day - day), yi_add s (86400 * (day - day)), show s + 86400 * (day - day) = s by omega]
        refine yy_fin.steps (n := 2) (s' := (101, [some (.ref w), some (.int (Int32.ofInt (t : Int))), some (.int (Int32.ofInt day)), some (.int (Int32.ofInt s)), some (.int (Int32.ofInt day)), some (.int (Int32.ofInt 0)), some (.null), some (.int (Int32.ofInt s))], [], h3)) rfl ?_
        refine yy_fin.steps (n := 1) (s' := (104, [some (.ref w), some (.int (Int32.ofInt (t : Int))), some (.int (Int32.ofInt day)), some (.int (Int32.ofInt s)), some (.int (Int32.ofInt day)), some (.int (Int32.ofInt 0 + Int32.ofInt 1)), some (.null), some (.int (Int32.ofInt s))], [], h3)) rfl ?_
        rw [yi_add 0 1, show (0 : Int) + 1 = 1 by decide]
        refine yy_fin.steps (n := 3) (s' := (29, [some (.ref w), some (.int (Int32.ofInt (t : Int))), some (.int (Int32.ofInt day)), some (.int (Int32.ofInt s)), some (.int (Int32.ofInt day)), some (.int (Int32.ofInt 1)), some (.null), some (.int (Int32.ofInt s))], [.int (Int32.ofInt 2), .int (Int32.ofInt 1)], h3)) rfl ?_
        refine yy_fin.ic rfl (fun cK => absurd cK (by decide)) (fun cK => ?_)
        refine yy_fin.steps (n := 4) (s' := (38, [some (.ref w), some (.int (Int32.ofInt (t : Int))), some (.int (Int32.ofInt day)), some (.int (Int32.ofInt s)), some (.int (Int32.ofInt day)), some (.int (Int32.ofInt 1)), some (.null), some (.int (Int32.ofInt s))], [.int (Int32.ofInt 1), .int (Int32.ofInt day), .int (Int32.ofInt (t : Int)), .ref w], h3)) rfl ?_
        refine yy_fin.cv (as := [.int (Int32.ofInt (t : Int)), .int (Int32.ofInt day), .int (Int32.ofInt 1)]) rfl rfl rfl oW3 (Nat.le_of_ble_eq_true rfl) (Nat.le_of_ble_eq_true rfl) (yw_half W3 ok (by omega) (Or.inr rfl) (by have := y3.1; omega) (y3.zr hz)) ?_
        rintro v4 h4 ⟨x4, r4⟩
        have W4 := W3.f x4
        have oW4 := oW3.x x4 id
        have y4 : yx yF 12 24 h h4 := (y3.tr x4 (fun _ _ e => e)).le (Nat.le_refl _) (Nat.le_refl _)
        cases e4 : tw_H T c day 1 with
        | none =>
          rw [e4] at r4
          cases r4
          refine yy_fin.steps (n := 1) (s' := (43, [some (.ref w), some (.int (Int32.ofInt (t : Int))), some (.int (Int32.ofInt day)), some (.int (Int32.ofInt s)), some (.int (Int32.ofInt day)), some (.int (Int32.ofInt 1)), some (.null), some (.int (Int32.ofInt s))], [], h4)) rfl ?_
          refine yy_fin.steps (n := 8) (s' := (54, [some (.ref w), some (.int (Int32.ofInt (t : Int))), some (.int (Int32.ofInt day)), some (.int (Int32.ofInt s)), some (.int (Int32.ofInt day)), some (.int (Int32.ofInt 1)), some (.null), some (.int (Int32.ofInt s + Int32.ofInt 86400 * (Int32.ofInt day - Int32.ofInt day)))], [], h4)) rfl ?_
          rw [yi_sub day day, yi_mul 86400 (day - day), yi_add s (86400 * (day - day)), show s + 86400 * (day - day) = s by omega]
          refine yy_fin.steps (n := 2) (s' := (101, [some (.ref w), some (.int (Int32.ofInt (t : Int))), some (.int (Int32.ofInt day)), some (.int (Int32.ofInt s)), some (.int (Int32.ofInt day)), some (.int (Int32.ofInt 1)), some (.null), some (.int (Int32.ofInt s))], [], h4)) rfl ?_
          refine yy_fin.steps (n := 1) (s' := (104, [some (.ref w), some (.int (Int32.ofInt (t : Int))), some (.int (Int32.ofInt day)), some (.int (Int32.ofInt s)), some (.int (Int32.ofInt day)), some (.int (Int32.ofInt 1 + Int32.ofInt 1)), some (.null), some (.int (Int32.ofInt s))], [], h4)) rfl ?_
          rw [yi_add 1 1, show (1 : Int) + 1 = 2 by decide]
          refine yy_fin.steps (n := 3) (s' := (29, [some (.ref w), some (.int (Int32.ofInt (t : Int))), some (.int (Int32.ofInt day)), some (.int (Int32.ofInt s)), some (.int (Int32.ofInt day)), some (.int (Int32.ofInt 2)), some (.null), some (.int (Int32.ofInt s))], [.int (Int32.ofInt 2), .int (Int32.ofInt 2)], h4)) rfl ?_
          refine yy_fin.ic rfl (fun cK => ?_) (fun cK => absurd (by decide) cK)
          refine yy_fin.steps (n := 4) (s' := (20, [some (.ref w), some (.int (Int32.ofInt (t : Int))), some (.int (Int32.ofInt day)), some (.int (Int32.ofInt s)), some (.int ((Int32.ofInt day) + (Int32.ofInt 1))), some (.int (Int32.ofInt 2)), some (.null), some (.int (Int32.ofInt s))], [.int (Int32.ofInt day), .int ((Int32.ofInt day) + (Int32.ofInt 1))], h4)) rfl ?_
          rw [yi_add day 1]
          refine yy_fin.ic rfl (fun cq => ?_) (fun cq => absurd ((yi_c_gt (a := day + 1) (b := day) (by omega) (by omega)).mpr (by omega)) cq)
          have cq := (yi_c_gt (a := day + 1) (b := day) (by omega) (by omega)).mp cq
          refine yy_fin.steps (n := 1) (s' := (114, [some (.ref w), some (.int (Int32.ofInt (t : Int))), some (.int (Int32.ofInt day)), some (.int (Int32.ofInt s)), some (.int (Int32.ofInt (day + 1))), some (.int (Int32.ofInt 2)), some (.null), some (.int (Int32.ofInt s))], [.null], h4)) rfl ?_
          have eR : wt_P T c day s = none := by
            unfold wt_P
            rw [e3]
          rw [eR]
          exact yy_fin.at (n := 1) rfl ⟨y4.le (by decide) (by decide), rfl⟩
        | some p4 =>
          obtain ⟨b4, l4⟩ := p4
          obtain ⟨⟨b0, l0, f1, f2⟩, -⟩ := tw_H_1 e4
          rw [e3] at f1
          cases f1
      | some p3 =>
        obtain ⟨b3, l3⟩ := p3
        rw [e3] at r3
        obtain ⟨k3, rfl, -, o3⟩ := r3
        have bd3 := tw_H_b ok e3
        have bd3b := bd3.2.2.2.1 (by decide)
        refine yy_fin.steps (n := 1) (s' := (43, [some (.ref w), some (.int (Int32.ofInt (t : Int))), some (.int (Int32.ofInt day)), some (.int (Int32.ofInt s)), some (.int (Int32.ofInt day)), some (.int (Int32.ofInt 0)), some (.ref k3), some (.int (Int32.ofInt (s + 86400)))], [], h3)) rfl ?_
        refine yy_fin.steps (n := 8) (s' := (54, [some (.ref w), some (.int (Int32.ofInt (t : Int))), some (.int (Int32.ofInt day)), some (.int (Int32.ofInt s)), some (.int (Int32.ofInt day)), some (.int (Int32.ofInt 0)), some (.ref k3), some (.int (Int32.ofInt s + Int32.ofInt 86400 * (Int32.ofInt day - Int32.ofInt day)))], [], h3)) rfl ?_
        rw [yi_sub day day, yi_mul 86400 (day - day), yi_add s (86400 * (day - day)), show s + 86400 * (day - day) = s by omega]
        refine yy_fin.steps (n := 5) (s' := (64, [some (.ref w), some (.int (Int32.ofInt (t : Int))), some (.int (Int32.ofInt day)), some (.int (Int32.ofInt s)), some (.int (Int32.ofInt day)), some (.int (Int32.ofInt 0)), some (.ref k3), some (.int (Int32.ofInt s))], [.int (Int32.ofInt 0), .ref k3, .int (Int32.ofInt s)], h3)) rfl ?_
        refine yy_fin.lp rfl o3 rfl (by decide : (Int32.ofInt 0).toNatClampNeg = 0) rfl ?_
        refine yy_fin.ic rfl (fun c13 => ?_) (fun c13 => ?_)
        · have c13 := (yi_c_lt (a := s) (b := b3) (by omega) (by omega)).mp c13
          refine yy_fin.steps (n := 1) (s' := (104, [some (.ref w), some (.int (Int32.ofInt (t : Int))), some (.int (Int32.ofInt day)), some (.int (Int32.ofInt s)), some (.int (Int32.ofInt day)), some (.int (Int32.ofInt 0 + Int32.ofInt 1)), some (.ref k3), some (.int (Int32.ofInt s))], [], h3)) rfl ?_
          rw [yi_add 0 1, show (0 : Int) + 1 = 1 by decide]
          refine yy_fin.steps (n := 3) (s' := (29, [some (.ref w), some (.int (Int32.ofInt (t : Int))), some (.int (Int32.ofInt day)), some (.int (Int32.ofInt s)), some (.int (Int32.ofInt day)), some (.int (Int32.ofInt 1)), some (.ref k3), some (.int (Int32.ofInt s))], [.int (Int32.ofInt 2), .int (Int32.ofInt 1)], h3)) rfl ?_
          refine yy_fin.ic rfl (fun cK => absurd cK (by decide)) (fun cK => ?_)
          refine yy_fin.steps (n := 4) (s' := (38, [some (.ref w), some (.int (Int32.ofInt (t : Int))), some (.int (Int32.ofInt day)), some (.int (Int32.ofInt s)), some (.int (Int32.ofInt day)), some (.int (Int32.ofInt 1)), some (.ref k3), some (.int (Int32.ofInt s))], [.int (Int32.ofInt 1), .int (Int32.ofInt day), .int (Int32.ofInt (t : Int)), .ref w], h3)) rfl ?_
          refine yy_fin.cv (as := [.int (Int32.ofInt (t : Int)), .int (Int32.ofInt day), .int (Int32.ofInt 1)]) rfl rfl rfl oW3 (Nat.le_of_ble_eq_true rfl) (Nat.le_of_ble_eq_true rfl) (yw_half W3 ok (by omega) (Or.inr rfl) (by have := y3.1; omega) (y3.zr hz)) ?_
          rintro v4 h4 ⟨x4, r4⟩
          have W4 := W3.f x4
          have oW4 := oW3.x x4 id
          have y4 : yx yF 12 24 h h4 := (y3.tr x4 (fun _ _ e => e)).le (Nat.le_refl _) (Nat.le_refl _)
          cases e4 : tw_H T c day 1 with
          | none =>
            rw [e4] at r4
            cases r4
            refine yy_fin.steps (n := 1) (s' := (43, [some (.ref w), some (.int (Int32.ofInt (t : Int))), some (.int (Int32.ofInt day)), some (.int (Int32.ofInt s)), some (.int (Int32.ofInt day)), some (.int (Int32.ofInt 1)), some (.null), some (.int (Int32.ofInt s))], [], h4)) rfl ?_
            refine yy_fin.steps (n := 8) (s' := (54, [some (.ref w), some (.int (Int32.ofInt (t : Int))), some (.int (Int32.ofInt day)), some (.int (Int32.ofInt s)), some (.int (Int32.ofInt day)), some (.int (Int32.ofInt 1)), some (.null), some (.int (Int32.ofInt s + Int32.ofInt 86400 * (Int32.ofInt day - Int32.ofInt day)))], [], h4)) rfl ?_
            rw [yi_sub day day, yi_mul 86400 (day - day), yi_add s (86400 * (day - day)), show s + 86400 * (day - day) = s by omega]
            refine yy_fin.steps (n := 2) (s' := (101, [some (.ref w), some (.int (Int32.ofInt (t : Int))), some (.int (Int32.ofInt day)), some (.int (Int32.ofInt s)), some (.int (Int32.ofInt day)), some (.int (Int32.ofInt 1)), some (.null), some (.int (Int32.ofInt s))], [], h4)) rfl ?_
            refine yy_fin.steps (n := 1) (s' := (104, [some (.ref w), some (.int (Int32.ofInt (t : Int))), some (.int (Int32.ofInt day)), some (.int (Int32.ofInt s)), some (.int (Int32.ofInt day)), some (.int (Int32.ofInt 1 + Int32.ofInt 1)), some (.null), some (.int (Int32.ofInt s))], [], h4)) rfl ?_
            rw [yi_add 1 1, show (1 : Int) + 1 = 2 by decide]
            refine yy_fin.steps (n := 3) (s' := (29, [some (.ref w), some (.int (Int32.ofInt (t : Int))), some (.int (Int32.ofInt day)), some (.int (Int32.ofInt s)), some (.int (Int32.ofInt day)), some (.int (Int32.ofInt 2)), some (.null), some (.int (Int32.ofInt s))], [.int (Int32.ofInt 2), .int (Int32.ofInt 2)], h4)) rfl ?_
            refine yy_fin.ic rfl (fun cK => ?_) (fun cK => absurd (by decide) cK)
            refine yy_fin.steps (n := 4) (s' := (20, [some (.ref w), some (.int (Int32.ofInt (t : Int))), some (.int (Int32.ofInt day)), some (.int (Int32.ofInt s)), some (.int ((Int32.ofInt day) + (Int32.ofInt 1))), some (.int (Int32.ofInt 2)), some (.null), some (.int (Int32.ofInt s))], [.int (Int32.ofInt day), .int ((Int32.ofInt day) + (Int32.ofInt 1))], h4)) rfl ?_
            rw [yi_add day 1]
            refine yy_fin.ic rfl (fun cq => ?_) (fun cq => absurd ((yi_c_gt (a := day + 1) (b := day) (by omega) (by omega)).mpr (by omega)) cq)
            have cq := (yi_c_gt (a := day + 1) (b := day) (by omega) (by omega)).mp cq
            refine yy_fin.steps (n := 1) (s' := (114, [some (.ref w), some (.int (Int32.ofInt (t : Int))), some (.int (Int32.ofInt day)), some (.int (Int32.ofInt s)), some (.int (Int32.ofInt (day + 1))), some (.int (Int32.ofInt 2)), some (.null), some (.int (Int32.ofInt s))], [.null], h4)) rfl ?_
            have eR : wt_P T c day s = none := by
              unfold wt_P
              rw [e3]
              dsimp only
              rw [if_pos (by omega), e2]
              rfl
            rw [eR]
            exact yy_fin.at (n := 1) rfl ⟨y4.le (by decide) (by decide), rfl⟩
          | some p4 =>
            obtain ⟨b4, l4⟩ := p4
            rw [e4] at r4
            obtain ⟨k4, rfl, -, o4⟩ := r4
            have bd4 := tw_H_b ok e4
            have bd4b := bd4.2.2.2.2 rfl
            obtain ⟨⟨b0, l0, f1, f2⟩, -⟩ := tw_H_1 e4
            rw [e3] at f1
            have f3 := congrArg Prod.fst (Option.some.inj f1)
            have f4 := congrArg Prod.snd (Option.some.inj f1)
            dsimp only at f3 f4
            refine yy_fin.steps (n := 1) (s' := (43, [some (.ref w), some (.int (Int32.ofInt (t : Int))), some (.int (Int32.ofInt day)), some (.int (Int32.ofInt s)), some (.int (Int32.ofInt day)), some (.int (Int32.ofInt 1)), some (.ref k4), some (.int (Int32.ofInt s))], [], h4)) rfl ?_
            refine yy_fin.steps (n := 8) (s' := (54, [some (.ref w), some (.int (Int32.ofInt (t : Int))), some (.int (Int32.ofInt day)), some (.int (Int32.ofInt s)), some (.int (Int32.ofInt day)), some (.int (Int32.ofInt 1)), some (.ref k4), some (.int (Int32.ofInt s + Int32.ofInt 86400 * (Int32.ofInt day - Int32.ofInt day)))], [], h4)) rfl ?_
            rw [yi_sub day day, yi_mul 86400 (day - day), yi_add s (86400 * (day - day)), show s + 86400 * (day - day) = s by omega]
            refine yy_fin.steps (n := 5) (s' := (64, [some (.ref w), some (.int (Int32.ofInt (t : Int))), some (.int (Int32.ofInt day)), some (.int (Int32.ofInt s)), some (.int (Int32.ofInt day)), some (.int (Int32.ofInt 1)), some (.ref k4), some (.int (Int32.ofInt s))], [.int (Int32.ofInt 0), .ref k4, .int (Int32.ofInt s)], h4)) rfl ?_
            refine yy_fin.lp rfl o4 rfl (by decide : (Int32.ofInt 0).toNatClampNeg = 0) rfl ?_
            refine yy_fin.ic rfl (fun cq => ?_) (fun cq => absurd ((yi_c_lt (a := s) (b := b4) (by omega) (by omega)).mpr (by omega)) cq)
            have cq := (yi_c_lt (a := s) (b := b4) (by omega) (by omega)).mp cq
            refine yy_fin.steps (n := 1) (s' := (104, [some (.ref w), some (.int (Int32.ofInt (t : Int))), some (.int (Int32.ofInt day)), some (.int (Int32.ofInt s)), some (.int (Int32.ofInt day)), some (.int (Int32.ofInt 1 + Int32.ofInt 1)), some (.ref k4), some (.int (Int32.ofInt s))], [], h4)) rfl ?_
            rw [yi_add 1 1, show (1 : Int) + 1 = 2 by decide]
            refine yy_fin.steps (n := 3) (s' := (29, [some (.ref w), some (.int (Int32.ofInt (t : Int))), some (.int (Int32.ofInt day)), some (.int (Int32.ofInt s)), some (.int (Int32.ofInt day)), some (.int (Int32.ofInt 2)), some (.ref k4), some (.int (Int32.ofInt s))], [.int (Int32.ofInt 2), .int (Int32.ofInt 2)], h4)) rfl ?_
            refine yy_fin.ic rfl (fun cK => ?_) (fun cK => absurd (by decide) cK)
            refine yy_fin.steps (n := 4) (s' := (20, [some (.ref w), some (.int (Int32.ofInt (t : Int))), some (.int (Int32.ofInt day)), some (.int (Int32.ofInt s)), some (.int ((Int32.ofInt day) + (Int32.ofInt 1))), some (.int (Int32.ofInt 2)), some (.ref k4), some (.int (Int32.ofInt s))], [.int (Int32.ofInt day), .int ((Int32.ofInt day) + (Int32.ofInt 1))], h4)) rfl ?_
            rw [yi_add day 1]
            refine yy_fin.ic rfl (fun cq => ?_) (fun cq => absurd ((yi_c_gt (a := day + 1) (b := day) (by omega) (by omega)).mpr (by omega)) cq)
            have cq := (yi_c_gt (a := day + 1) (b := day) (by omega) (by omega)).mp cq
            refine yy_fin.steps (n := 1) (s' := (114, [some (.ref w), some (.int (Int32.ofInt (t : Int))), some (.int (Int32.ofInt day)), some (.int (Int32.ofInt s)), some (.int (Int32.ofInt (day + 1))), some (.int (Int32.ofInt 2)), some (.ref k4), some (.int (Int32.ofInt s))], [.null], h4)) rfl ?_
            have eR : wt_P T c day s = none := by
              unfold wt_P
              rw [e3]
              dsimp only
              rw [if_pos (by omega), e2]
              rfl
            rw [eR]
            exact yy_fin.at (n := 1) rfl ⟨y4.le (by decide) (by decide), rfl⟩
        · have c13 := mt (yi_c_lt (a := s) (b := b3) (by omega) (by omega)).mpr c13
          refine yy_fin.steps (n := 3) (s' := (73, [some (.ref w), some (.int (Int32.ofInt (t : Int))), some (.int (Int32.ofInt day)), some (.int (Int32.ofInt s)), some (.int (Int32.ofInt day)), some (.int (Int32.ofInt 0)), some (.ref k3), some (.int (Int32.ofInt s))], [.int (Int32.ofInt 1), .ref k3, .int (Int32.ofInt s)], h3)) rfl ?_
          refine yy_fin.lp rfl o3 rfl (by decide : (Int32.ofInt 1).toNatClampNeg = 1) rfl ?_
          refine yy_fin.ic rfl (fun c23 => ?_) (fun c23 => ?_)
          · have c23 := (yi_c_ge (a := s) (b := b3 + l3) (by omega) (by omega)).mp c23
            refine yy_fin.steps (n := 1) (s' := (104, [some (.ref w), some (.int (Int32.ofInt (t : Int))), some (.int (Int32.ofInt day)), some (.int (Int32.ofInt s)), some (.int (Int32.ofInt day)), some (.int (Int32.ofInt 0 + Int32.ofInt 1)), some (.ref k3), some (.int (Int32.ofInt s))], [], h3)) rfl ?_
            rw [yi_add 0 1, show (0 : Int) + 1 = 1 by decide]
            refine yy_fin.steps (n := 3) (s' := (29, [some (.ref w), some (.int (Int32.ofInt (t : Int))), some (.int (Int32.ofInt day)), some (.int (Int32.ofInt s)), some (.int (Int32.ofInt day)), some (.int (Int32.ofInt 1)), some (.ref k3), some (.int (Int32.ofInt s))], [.int (Int32.ofInt 2), .int (Int32.ofInt 1)], h3)) rfl ?_
            refine yy_fin.ic rfl (fun cK => absurd cK (by decide)) (fun cK => ?_)
            refine yy_fin.steps (n := 4) (s' := (38, [some (.ref w), some (.int (Int32.ofInt (t : Int))), some (.int (Int32.ofInt day)), some (.int (Int32.ofInt s)), some (.int (Int32.ofInt day)), some (.int (Int32.ofInt 1)), some (.ref k3), some (.int (Int32.ofInt s))], [.int (Int32.ofInt 1), .int (Int32.ofInt day), .int (Int32.ofInt (t : Int)), .ref w], h3)) rfl ?_
            refine yy_fin.cv (as := [.int (Int32.ofInt (t : Int)), .int (Int32.ofInt day), .int (Int32.ofInt 1)]) rfl rfl rfl oW3 (Nat.le_of_ble_eq_true rfl) (Nat.le_of_ble_eq_true rfl) (yw_half W3 ok (by omega) (Or.inr rfl) (by have := y3.1; omega) (y3.zr hz)) ?_
            rintro v4 h4 ⟨x4, r4⟩
            have W4 := W3.f x4
            have oW4 := oW3.x x4 id
            have y4 : yx yF 12 24 h h4 := (y3.tr x4 (fun _ _ e => e)).le (Nat.le_refl _) (Nat.le_refl _)
            cases e4 : tw_H T c day 1 with
            | none =>
              rw [e4] at r4
              cases r4
              refine yy_fin.steps (n := 1) (s' := (43, [some (.ref w), some (.int (Int32.ofInt (t : Int))), some (.int (Int32.ofInt day)), some (.int (Int32.ofInt s)), some (.int (Int32.ofInt day)), some (.int (Int32.ofInt 1)), some (.null), some (.int (Int32.ofInt s))], [], h4)) rfl ?_
              refine yy_fin.steps (n := 8) (s' := (54, [some (.ref w), some (.int (Int32.ofInt (t : Int))), some (.int (Int32.ofInt day)), some (.int (Int32.ofInt s)), some (.int (Int32.ofInt day)), some (.int (Int32.ofInt 1)), some (.null), some (.int (Int32.ofInt s + Int32.ofInt 86400 * (Int32.ofInt day - Int32.ofInt day)))], [], h4)) rfl ?_
              rw [yi_sub day day, yi_mul 86400 (day - day), yi_add s (86400 * (day - day)), show s + 86400 * (day - day) = s by omega]
              refine yy_fin.steps (n := 2) (s' := (101, [some (.ref w), some (.int (Int32.ofInt (t : Int))), some (.int (Int32.ofInt day)), some (.int (Int32.ofInt s)), some (.int (Int32.ofInt day)), some (.int (Int32.ofInt 1)), some (.null), some (.int (Int32.ofInt s))], [], h4)) rfl ?_
              refine yy_fin.steps (n := 1) (s' := (104, [some (.ref w), some (.int (Int32.ofInt (t : Int))), some (.int (Int32.ofInt day)), some (.int (Int32.ofInt s)), some (.int (Int32.ofInt day)), some (.int (Int32.ofInt 1 + Int32.ofInt 1)), some (.null), some (.int (Int32.ofInt s))], [], h4)) rfl ?_
              rw [yi_add 1 1, show (1 : Int) + 1 = 2 by decide]
              refine yy_fin.steps (n := 3) (s' := (29, [some (.ref w), some (.int (Int32.ofInt (t : Int))), some (.int (Int32.ofInt day)), some (.int (Int32.ofInt s)), some (.int (Int32.ofInt day)), some (.int (Int32.ofInt 2)), some (.null), some (.int (Int32.ofInt s))], [.int (Int32.ofInt 2), .int (Int32.ofInt 2)], h4)) rfl ?_
              refine yy_fin.ic rfl (fun cK => ?_) (fun cK => absurd (by decide) cK)
              refine yy_fin.steps (n := 4) (s' := (20, [some (.ref w), some (.int (Int32.ofInt (t : Int))), some (.int (Int32.ofInt day)), some (.int (Int32.ofInt s)), some (.int ((Int32.ofInt day) + (Int32.ofInt 1))), some (.int (Int32.ofInt 2)), some (.null), some (.int (Int32.ofInt s))], [.int (Int32.ofInt day), .int ((Int32.ofInt day) + (Int32.ofInt 1))], h4)) rfl ?_
              rw [yi_add day 1]
              refine yy_fin.ic rfl (fun cq => ?_) (fun cq => absurd ((yi_c_gt (a := day + 1) (b := day) (by omega) (by omega)).mpr (by omega)) cq)
              have cq := (yi_c_gt (a := day + 1) (b := day) (by omega) (by omega)).mp cq
              refine yy_fin.steps (n := 1) (s' := (114, [some (.ref w), some (.int (Int32.ofInt (t : Int))), some (.int (Int32.ofInt day)), some (.int (Int32.ofInt s)), some (.int (Int32.ofInt (day + 1))), some (.int (Int32.ofInt 2)), some (.null), some (.int (Int32.ofInt s))], [.null], h4)) rfl ?_
              have eR : wt_P T c day s = none := by
                unfold wt_P
                rw [e3]
                dsimp only
                rw [if_neg (by omega), if_neg (by omega), e4]
                rfl
              rw [eR]
              exact yy_fin.at (n := 1) rfl ⟨y4.le (by decide) (by decide), rfl⟩
            | some p4 =>
              obtain ⟨b4, l4⟩ := p4
              rw [e4] at r4
              obtain ⟨k4, rfl, -, o4⟩ := r4
              have bd4 := tw_H_b ok e4
              have bd4b := bd4.2.2.2.2 rfl
              obtain ⟨⟨b0, l0, f1, f2⟩, -⟩ := tw_H_1 e4
              rw [e3] at f1
              have f3 := congrArg Prod.fst (Option.some.inj f1)
              have f4 := congrArg Prod.snd (Option.some.inj f1)
              dsimp only at f3 f4
              refine yy_fin.steps (n := 1) (s' := (43, [some (.ref w), some (.int (Int32.ofInt (t : Int))), some (.int (Int32.ofInt day)), some (.int (Int32.ofInt s)), some (.int (Int32.ofInt day)), some (.int (Int32.ofInt 1)), some (.ref k4), some (.int (Int32.ofInt s))], [], h4)) rfl ?_
              refine yy_fin.steps (n := 8) (s' := (54, [some (.ref w), some (.int (Int32.ofInt (t : Int))), some (.int (Int32.ofInt day)), some (.int (Int32.ofInt s)), some (.int (Int32.ofInt day)), some (.int (Int32.ofInt 1)), some (.ref k4), some (.int (Int32.ofInt s + Int32.ofInt 86400 * (Int32.ofInt day - Int32.ofInt day)))], [], h4)) rfl ?_
              rw [yi_sub day day, yi_mul 86400 (day - day), yi_add s (86400 * (day - day)), show s + 86400 * (day - day) = s by omega]
              refine yy_fin.steps (n := 5) (s' := (64, [some (.ref w), some (.int (Int32.ofInt (t : Int))), some (.int (Int32.ofInt day)), some (.int (Int32.ofInt s)), some (.int (Int32.ofInt day)), some (.int (Int32.ofInt 1)), some (.ref k4), some (.int (Int32.ofInt s))], [.int (Int32.ofInt 0), .ref k4, .int (Int32.ofInt s)], h4)) rfl ?_
              refine yy_fin.lp rfl o4 rfl (by decide : (Int32.ofInt 0).toNatClampNeg = 0) rfl ?_
              refine yy_fin.ic rfl (fun cq => absurd ((yi_c_lt (a := s) (b := b4) (by omega) (by omega)).mp cq) (by omega)) (fun cq => ?_)
              have cq := mt (yi_c_lt (a := s) (b := b4) (by omega) (by omega)).mpr cq
              refine yy_fin.steps (n := 3) (s' := (73, [some (.ref w), some (.int (Int32.ofInt (t : Int))), some (.int (Int32.ofInt day)), some (.int (Int32.ofInt s)), some (.int (Int32.ofInt day)), some (.int (Int32.ofInt 1)), some (.ref k4), some (.int (Int32.ofInt s))], [.int (Int32.ofInt 1), .ref k4, .int (Int32.ofInt s)], h4)) rfl ?_
              refine yy_fin.lp rfl o4 rfl (by decide : (Int32.ofInt 1).toNatClampNeg = 1) rfl ?_
              refine yy_fin.ic rfl (fun cq => absurd ((yi_c_ge (a := s) (b := b4 + l4) (by omega) (by omega)).mp cq) (by omega)) (fun cq => ?_)
              have cq := mt (yi_c_ge (a := s) (b := b4 + l4) (by omega) (by omega)).mpr cq
              refine yy_fin.steps (n := 1) (s' := (78, [some (.ref w), some (.int (Int32.ofInt (t : Int))), some (.int (Int32.ofInt day)), some (.int (Int32.ofInt s)), some (.int (Int32.ofInt day)), some (.int (Int32.ofInt 1)), some (.ref k4), some (.int (Int32.ofInt s))], [.int (Int32.ofInt 3)], h4)) rfl ?_
              refine yy_fin.ni (n := 3) rfl (by decide) (by decide) (by decide) (by have := y4.1; omega) (y4.zr hz) fun h5 x5 e5 i5 z5 => ?_
              have q5 : yQ h5 (h4.1.1 + 1) 3 [] := ⟨i5, fun j v e => nomatch e⟩
              have o4n := o4.x x5 id
              have nle := o4.le
              have hle := y4.1
              refine yy_fin.steps (n := 3) (s' := (84, [some (.ref w), some (.int (Int32.ofInt (t : Int))), some (.int (Int32.ofInt day)), some (.int (Int32.ofInt s)), some (.int (Int32.ofInt day)), some (.int (Int32.ofInt 1)), some (.ref k4), some (.int (Int32.ofInt s))], [.int (Int32.ofInt day), .int (Int32.ofInt 0), .ref (h4.1.1 + 1), .ref (h4.1.1 + 1)], h5)) rfl ?_
              refine yy_fin.sq rfl q5 (by decide) rfl fun h6 x6 q6 => ?_
              have o4n := o4n.x x6 (by omega)
              refine yy_fin.steps (n := 3) (s' := (89, [some (.ref w), some (.int (Int32.ofInt (t : Int))), some (.int (Int32.ofInt day)), some (.int (Int32.ofInt s)), some (.int (Int32.ofInt day)), some (.int (Int32.ofInt 1)), some (.ref k4), some (.int (Int32.ofInt s))], [.int (Int32.ofInt 1), .int (Int32.ofInt 1), .ref (h4.1.1 + 1), .ref (h4.1.1 + 1)], h6)) rfl ?_
              refine yy_fin.sq rfl q6 (by decide) rfl fun h7 x7 q7 => ?_
              have o4n := o4n.x x7 (by omega)
              refine yy_fin.steps (n := 5) (s' := (97, [some (.ref w), some (.int (Int32.ofInt (t : Int))), some (.int (Int32.ofInt day)), some (.int (Int32.ofInt s)), some (.int (Int32.ofInt day)), some (.int (Int32.ofInt 1)), some (.ref k4), some (.int (Int32.ofInt s))], [.int (Int32.ofInt 0), .ref k4, .int (Int32.ofInt s), .int (Int32.ofInt 2), .ref (h4.1.1 + 1), .ref (h4.1.1 + 1)], h7)) rfl ?_
              refine yy_fin.lp rfl o4n rfl (by decide : (Int32.ofInt 0).toNatClampNeg = 0) rfl ?_
              refine yy_fin.steps (n := 1) (s' := (99, [some (.ref w), some (.int (Int32.ofInt (t : Int))), some (.int (Int32.ofInt day)), some (.int (Int32.ofInt s)), some (.int (Int32.ofInt day)), some (.int (Int32.ofInt 1)), some (.ref k4), some (.int (Int32.ofInt s))], [.int ((Int32.ofInt s) - (Int32.ofInt b4)), .int (Int32.ofInt 2), .ref (h4.1.1 + 1), .ref (h4.1.1 + 1)], h7)) rfl ?_
              rw [yi_sub s b4]
              refine yy_fin.sq rfl q7 (by decide) rfl fun h8 x8 q8 => ?_
              have eR : wt_P T c day s = some (day, 1, b4, l4) := by
                unfold wt_P
                rw [e3]
                dsimp only
                rw [if_neg (by omega), if_neg (by omega), e4]
                rfl
              rw [eR]
              exact yy_fin.at (n := 1) rfl ⟨((((y4.tr x5 (fun _ _ e => e)).tr x6 (fun q hq e => by omega)).tr x7 (fun q hq e => by omega)).tr x8 (fun q hq e => by omega)).le (by decide) (by decide), h4.1.1 + 1, rfl, by omega, by (try dsimp only); rw [show s + 86400 * (day - day) - b4 = s - b4 by omega]; exact q8⟩
          · have c23 := mt (yi_c_ge (a := s) (b := b3 + l3) (by omega) (by omega)).mpr c23
            refine yy_fin.steps (n := 1) (s' := (78, [some (.ref w), some (.int (Int32.ofInt (t : Int))), some (.int (Int32.ofInt day)), some (.int (Int32.ofInt s)), some (.int (Int32.ofInt day)), some (.int (Int32.ofInt 0)), some (.ref k3), some (.int (Int32.ofInt s))], [.int (Int32.ofInt 3)], h3)) rfl ?_
            refine yy_fin.ni (n := 3) rfl (by decide) (by decide) (by decide) (by have := y3.1; omega) (y3.zr hz) fun h5 x5 e5 i5 z5 => ?_
            have q5 : yQ h5 (h3.1.1 + 1) 3 [] := ⟨i5, fun j v e => nomatch e⟩
            have o3n := o3.x x5 id
            have nle := o3.le
            have hle := y3.1
            refine yy_fin.steps (n := 3) (s' := (84, [some (.ref w), some (.int (Int32.ofInt (t : Int))), some (.int (Int32.ofInt day)), some (.int (Int32.ofInt s)), some (.int (Int32.ofInt day)), some (.int (Int32.ofInt 0)), some (.ref k3), some (.int (Int32.ofInt s))], [.int (Int32.ofInt day), .int (Int32.ofInt 0), .ref (h3.1.1 + 1), .ref (h3.1.1 + 1)], h5)) rfl ?_
            refine yy_fin.sq rfl q5 (by decide) rfl fun h6 x6 q6 => ?_
            have o3n := o3n.x x6 (by omega)
            refine yy_fin.steps (n := 3) (s' := (89, [some (.ref w), some (.int (Int32.ofInt (t : Int))), some (.int (Int32.ofInt day)), some (.int (Int32.ofInt s)), some (.int (Int32.ofInt day)), some (.int (Int32.ofInt 0)), some (.ref k3), some (.int (Int32.ofInt s))], [.int (Int32.ofInt 0), .int (Int32.ofInt 1), .ref (h3.1.1 + 1), .ref (h3.1.1 + 1)], h6)) rfl ?_
            refine yy_fin.sq rfl q6 (by decide) rfl fun h7 x7 q7 => ?_
            have o3n := o3n.x x7 (by omega)
            refine yy_fin.steps (n := 5) (s' := (97, [some (.ref w), some (.int (Int32.ofInt (t : Int))), some (.int (Int32.ofInt day)), some (.int (Int32.ofInt s)), some (.int (Int32.ofInt day)), some (.int (Int32.ofInt 0)), some (.ref k3), some (.int (Int32.ofInt s))], [.int (Int32.ofInt 0), .ref k3, .int (Int32.ofInt s), .int (Int32.ofInt 2), .ref (h3.1.1 + 1), .ref (h3.1.1 + 1)], h7)) rfl ?_
            refine yy_fin.lp rfl o3n rfl (by decide : (Int32.ofInt 0).toNatClampNeg = 0) rfl ?_
            refine yy_fin.steps (n := 1) (s' := (99, [some (.ref w), some (.int (Int32.ofInt (t : Int))), some (.int (Int32.ofInt day)), some (.int (Int32.ofInt s)), some (.int (Int32.ofInt day)), some (.int (Int32.ofInt 0)), some (.ref k3), some (.int (Int32.ofInt s))], [.int ((Int32.ofInt s) - (Int32.ofInt b3)), .int (Int32.ofInt 2), .ref (h3.1.1 + 1), .ref (h3.1.1 + 1)], h7)) rfl ?_
            rw [yi_sub s b3]
            refine yy_fin.sq rfl q7 (by decide) rfl fun h8 x8 q8 => ?_
            have eR : wt_P T c day s = some (day, 0, b3, l3) := by
              unfold wt_P
              rw [e3]
              dsimp only
              rw [if_neg (by omega), if_pos (by omega)]
            rw [eR]
            exact yy_fin.at (n := 1) rfl ⟨((((y3.tr x5 (fun _ _ e => e)).tr x6 (fun q hq e => by omega)).tr x7 (fun q hq e => by omega)).tr x8 (fun q hq e => by omega)).le (by decide) (by decide), h3.1.1 + 1, rfl, by omega, by (try dsimp only); rw [show s + 86400 * (day - day) - b3 = s - b3 by omega]; exact q8⟩
    | some p2 =>
      obtain ⟨b2, l2⟩ := p2
      rw [e2] at r2
      obtain ⟨k2, rfl, -, o2⟩ := r2
      have bd2 := tw_H_b ok e2
      have bd2b := bd2.2.2.2.2 rfl
      refine yy_fin.steps (n := 1) (s' := (43, [some (.ref w), some (.int (Int32.ofInt (t : Int))), some (.int (Int32.ofInt day)), some (.int (Int32.ofInt s)), some (.int (Int32.ofInt (day - 1))), some (.int (Int32.ofInt 1)), some (.ref k2), some (.int (Int32.ofInt (s + 86400)))], [], h2)) rfl ?_
      refine yy_fin.steps (n := 8) (s' := (54, [some (.ref w), some (.int (Int32.ofInt (t : Int))), some (.int (Int32.ofInt day)), some (.int (Int32.ofInt s)), some (.int (Int32.ofInt (day - 1))), some (.int (Int32.ofInt 1)), some (.ref k2), some (.int (Int32.ofInt s + Int32.ofInt 86400 * (Int32.ofInt day - Int32.ofInt (day - 1))))], [], h2)) rfl ?_
      rw [yi_sub day (day - 1), yi_mul 86400 (day - (day - 1)), yi_add s (86400 * (day - (day - 1))), show s + 86400 * (day - (day - 1)) = s + 86400 by omega]
      refine yy_fin.steps (n := 5) (s' := (64, [some (.ref w), some (.int (Int32.ofInt (t : Int))), some (.int (Int32.ofInt day)), some (.int (Int32.ofInt s)), some (.int (Int32.ofInt (day - 1))), some (.int (Int32.ofInt 1)), some (.ref k2), some (.int (Int32.ofInt (s + 86400)))], [.int (Int32.ofInt 0), .ref k2, .int (Int32.ofInt (s + 86400))], h2)) rfl ?_
      refine yy_fin.lp rfl o2 rfl (by decide : (Int32.ofInt 0).toNatClampNeg = 0) rfl ?_
      refine yy_fin.ic rfl (fun cq => absurd ((yi_c_lt (a := s + 86400) (b := b2) (by omega) (by omega)).mp cq) (by omega)) (fun cq => ?_)
      have cq := mt (yi_c_lt (a := s + 86400) (b := b2) (by omega) (by omega)).mpr cq
      refine yy_fin.steps (n := 3) (s' := (73, [some (.ref w), some (.int (Int32.ofInt (t : Int))), some (.int (Int32.ofInt day)), some (.int (Int32.ofInt s)), some (.int (Int32.ofInt (day - 1))), some (.int (Int32.ofInt 1)), some (.ref k2), some (.int (Int32.ofInt (s + 86400)))], [.int (Int32.ofInt 1), .ref k2, .int (Int32.ofInt (s + 86400))], h2)) rfl ?_
      refine yy_fin.lp rfl o2 rfl (by decide : (Int32.ofInt 1).toNatClampNeg = 1) rfl ?_
      refine yy_fin.ic rfl (fun c22 => ?_) (fun c22 => ?_)
      · have c22 := (yi_c_ge (a := s + 86400) (b := b2 + l2) (by omega) (by omega)).mp c22
        refine yy_fin.steps (n := 1) (s' := (104, [some (.ref w), some (.int (Int32.ofInt (t : Int))), some (.int (Int32.ofInt day)), some (.int (Int32.ofInt s)), some (.int (Int32.ofInt (day - 1))), some (.int (Int32.ofInt 1 + Int32.ofInt 1)), some (.ref k2), some (.int (Int32.ofInt (s + 86400)))], [], h2)) rfl ?_
        rw [yi_add 1 1, show (1 : Int) + 1 = 2 by decide]
        refine yy_fin.steps (n := 3) (s' := (29, [some (.ref w), some (.int (Int32.ofInt (t : Int))), some (.int (Int32.ofInt day)), some (.int (Int32.ofInt s)), some (.int (Int32.ofInt (day - 1))), some (.int (Int32.ofInt 2)), some (.ref k2), some (.int (Int32.ofInt (s + 86400)))], [.int (Int32.ofInt 2), .int (Int32.ofInt 2)], h2)) rfl ?_
        refine yy_fin.ic rfl (fun cK => ?_) (fun cK => absurd (by decide) cK)
        refine yy_fin.steps (n := 1) (s' := (110, [some (.ref w), some (.int (Int32.ofInt (t : Int))), some (.int (Int32.ofInt day)), some (.int (Int32.ofInt s)), some (.int (Int32.ofInt (day - 1) + Int32.ofInt 1)), some (.int (Int32.ofInt 2)), some (.ref k2), some (.int (Int32.ofInt (s + 86400)))], [], h2)) rfl ?_
        rw [yi_add (day - 1) 1, show day - 1 + 1 = day by omega]
        refine yy_fin.steps (n := 3) (s' := (20, [some (.ref w), some (.int (Int32.ofInt (t : Int))), some (.int (Int32.ofInt day)), some (.int (Int32.ofInt s)), some (.int (Int32.ofInt day)), some (.int (Int32.ofInt 2)), some (.ref k2), some (.int (Int32.ofInt (s + 86400)))], [.int (Int32.ofInt day), .int (Int32.ofInt day)], h2)) rfl ?_
        refine yy_fin.ic rfl (fun cq => absurd ((yi_c_gt (a := day) (b := day) (by omega) (by omega)).mp cq) (by omega)) (fun cq => ?_)
        have cq := mt (yi_c_gt (a := day) (b := day) (by omega) (by omega)).mpr cq
        refine yy_fin.steps (n := 4) (s' := (29, [some (.ref w), some (.int (Int32.ofInt (t : Int))), some (.int (Int32.ofInt day)), some (.int (Int32.ofInt s)), some (.int (Int32.ofInt day)), some (.int (Int32.ofInt 0)), some (.ref k2), some (.int (Int32.ofInt (s + 86400)))], [.int (Int32.ofInt 2), .int (Int32.ofInt 0)], h2)) rfl ?_
        refine yy_fin.ic rfl (fun cK => absurd cK (by decide)) (fun cK => ?_)
        refine yy_fin.steps (n := 4) (s' := (38, [some (.ref w), some (.int (Int32.ofInt (t : Int))), some (.int (Int32.ofInt day)), some (.int (Int32.ofInt s)), some (.int (Int32.ofInt day)), some (.int (Int32.ofInt 0)), some (.ref k2), some (.int (Int32.ofInt (s + 86400)))], [.int (Int32.ofInt 0), .int (Int32.ofInt day), .int (Int32.ofInt (t : Int)), .ref w], h2)) rfl ?_
        refine yy_fin.cv (as := [.int (Int32.ofInt (t : Int)), .int (Int32.ofInt day), .int (Int32.ofInt 0)]) rfl rfl rfl oW2 (Nat.le_of_ble_eq_true rfl) (Nat.le_of_ble_eq_true rfl) (yw_half W2 ok (by omega) (Or.inl rfl) (by have := y2.1; omega) (y2.zr hz)) ?_
        rintro v3 h3 ⟨x3, r3⟩
        have W3 := W2.f x3
        have oW3 := oW2.x x3 id
        have y3 : yx yF 9 18 h h3 := (y2.tr x3 (fun _ _ e => e)).le (Nat.le_refl _) (Nat.le_refl _)
        cases e3 : tw_H T c day 0 with
        | none =>
          obtain ⟨-, b0, l0, f1, f2⟩ := tw_H_1 e2
          rw [show day - 1 + 1 = day by omega, e3] at f1
          cases f1
        | some p3 =>
          obtain ⟨b3, l3⟩ := p3
          rw [e3] at r3
          obtain ⟨k3, rfl, -, o3⟩ := r3
          have bd3 := tw_H_b ok e3
          have bd3b := bd3.2.2.2.1 (by decide)
          obtain ⟨-, b0, l0, f1, f2⟩ := tw_H_1 e2
          rw [show day - 1 + 1 = day by omega, e3] at f1
          have f3 := congrArg Prod.fst (Option.some.inj f1)
          dsimp only at f3
          refine yy_fin.steps (n := 1) (s' := (43, [some (.ref w), some (.int (Int32.ofInt (t : Int))), some (.int (Int32.ofInt day)), some (.int (Int32.ofInt s)), some (.int (Int32.ofInt day)), some (.int (Int32.ofInt 0)), some (.ref k3), some (.int (Int32.ofInt (s + 86400)))], [], h3)) rfl ?_
          refine yy_fin.steps (n := 8) (s' := (54, [some (.ref w), some (.int (Int32.ofInt (t : Int))), some (.int (Int32.ofInt day)), some (.int (Int32.ofInt s)), some (.int (Int32.ofInt day)), some (.int (Int32.ofInt 0)), some (.ref k3), some (.int (Int32.ofInt s + Int32.ofInt 86400 * (Int32.ofInt day - Int32.ofInt day)))], [], h3)) rfl ?_
          rw [yi_sub day day, yi_mul 86400 (day - day), yi_add s (86400 * (day - day)), show s + 86400 * (day - day) = s by omega]
          refine yy_fin.steps (n := 5) (s' := (64, [some (.ref w), some (.int (Int32.ofInt (t : Int))), some (.int (Int32.ofInt day)), some (.int (Int32.ofInt s)), some (.int (Int32.ofInt day)), some (.int (Int32.ofInt 0)), some (.ref k3), some (.int (Int32.ofInt s))], [.int (Int32.ofInt 0), .ref k3, .int (Int32.ofInt s)], h3)) rfl ?_
          refine yy_fin.lp rfl o3 rfl (by decide : (Int32.ofInt 0).toNatClampNeg = 0) rfl ?_
          refine yy_fin.ic rfl (fun cq => absurd ((yi_c_lt (a := s) (b := b3) (by omega) (by omega)).mp cq) (by omega)) (fun cq => ?_)
          have cq := mt (yi_c_lt (a := s) (b := b3) (by omega) (by omega)).mpr cq
          refine yy_fin.steps (n := 3) (s' := (73, [some (.ref w), some (.int (Int32.ofInt (t : Int))), some (.int (Int32.ofInt day)), some (.int (Int32.ofInt s)), some (.int (Int32.ofInt day)), some (.int (Int32.ofInt 0)), some (.ref k3), some (.int (Int32.ofInt s))], [.int (Int32.ofInt 1), .ref k3, .int (Int32.ofInt s)], h3)) rfl ?_
          refine yy_fin.lp rfl o3 rfl (by decide : (Int32.ofInt 1).toNatClampNeg = 1) rfl ?_
          refine yy_fin.ic rfl (fun c23 => ?_) (fun c23 => ?_)
          · have c23 := (yi_c_ge (a := s) (b := b3 + l3) (by omega) (by omega)).mp c23
            refine yy_fin.steps (n := 1) (s' := (104, [some (.ref w), some (.int (Int32.ofInt (t : Int))), some (.int (Int32.ofInt day)), some (.int (Int32.ofInt s)), some (.int (Int32.ofInt day)), some (.int (Int32.ofInt 0 + Int32.ofInt 1)), some (.ref k3), some (.int (Int32.ofInt s))], [], h3)) rfl ?_
            rw [yi_add 0 1, show (0 : Int) + 1 = 1 by decide]
            refine yy_fin.steps (n := 3) (s' := (29, [some (.ref w), some (.int (Int32.ofInt (t : Int))), some (.int (Int32.ofInt day)), some (.int (Int32.ofInt s)), some (.int (Int32.ofInt day)), some (.int (Int32.ofInt 1)), some (.ref k3), some (.int (Int32.ofInt s))], [.int (Int32.ofInt 2), .int (Int32.ofInt 1)], h3)) rfl ?_
            refine yy_fin.ic rfl (fun cK => absurd cK (by decide)) (fun cK => ?_)
            refine yy_fin.steps (n := 4) (s' := (38, [some (.ref w), some (.int (Int32.ofInt (t : Int))), some (.int (Int32.ofInt day)), some (.int (Int32.ofInt s)), some (.int (Int32.ofInt day)), some (.int (Int32.ofInt 1)), some (.ref k3), some (.int (Int32.ofInt s))], [.int (Int32.ofInt 1), .int (Int32.ofInt day), .int (Int32.ofInt (t : Int)), .ref w], h3)) rfl ?_
            refine yy_fin.cv (as := [.int (Int32.ofInt (t : Int)), .int (Int32.ofInt day), .int (Int32.ofInt 1)]) rfl rfl rfl oW3 (Nat.le_of_ble_eq_true rfl) (Nat.le_of_ble_eq_true rfl) (yw_half W3 ok (by omega) (Or.inr rfl) (by have := y3.1; omega) (y3.zr hz)) ?_
            rintro v4 h4 ⟨x4, r4⟩
            have W4 := W3.f x4
            have oW4 := oW3.x x4 id
            have y4 : yx yF 12 24 h h4 := (y3.tr x4 (fun _ _ e => e)).le (Nat.le_refl _) (Nat.le_refl _)
            cases e4 : tw_H T c day 1 with
            | none =>
              rw [e4] at r4
              cases r4
              refine yy_fin.steps (n := 1) (s' := (43, [some (.ref w), some (.int (Int32.ofInt (t : Int))), some (.int (Int32.ofInt day)), some (.int (Int32.ofInt s)), some (.int (Int32.ofInt day)), some (.int (Int32.ofInt 1)), some (.null), some (.int (Int32.ofInt s))], [], h4)) rfl ?_
              refine yy_fin.steps (n := 8) (s' := (54, [some (.ref w), some (.int (Int32.ofInt (t : Int))), some (.int (Int32.ofInt day)), some (.int (Int32.ofInt s)), some (.int (Int32.ofInt day)), some (.int (Int32.ofInt 1)), some (.null), some (.int (Int32.ofInt s + Int32.ofInt 86400 * (Int32.ofInt day - Int32.ofInt day)))], [], h4)) rfl ?_
              rw [yi_sub day day, yi_mul 86400 (day - day), yi_add s (86400 * (day - day)), show s + 86400 * (day - day) = s by omega]
              refine yy_fin.steps (n := 2) (s' := (101, [some (.ref w), some (.int (Int32.ofInt (t : Int))), some (.int (Int32.ofInt day)), some (.int (Int32.ofInt s)), some (.int (Int32.ofInt day)), some (.int (Int32.ofInt 1)), some (.null), some (.int (Int32.ofInt s))], [], h4)) rfl ?_
              refine yy_fin.steps (n := 1) (s' := (104, [some (.ref w), some (.int (Int32.ofInt (t : Int))), some (.int (Int32.ofInt day)), some (.int (Int32.ofInt s)), some (.int (Int32.ofInt day)), some (.int (Int32.ofInt 1 + Int32.ofInt 1)), some (.null), some (.int (Int32.ofInt s))], [], h4)) rfl ?_
              rw [yi_add 1 1, show (1 : Int) + 1 = 2 by decide]
              refine yy_fin.steps (n := 3) (s' := (29, [some (.ref w), some (.int (Int32.ofInt (t : Int))), some (.int (Int32.ofInt day)), some (.int (Int32.ofInt s)), some (.int (Int32.ofInt day)), some (.int (Int32.ofInt 2)), some (.null), some (.int (Int32.ofInt s))], [.int (Int32.ofInt 2), .int (Int32.ofInt 2)], h4)) rfl ?_
              refine yy_fin.ic rfl (fun cK => ?_) (fun cK => absurd (by decide) cK)
              refine yy_fin.steps (n := 4) (s' := (20, [some (.ref w), some (.int (Int32.ofInt (t : Int))), some (.int (Int32.ofInt day)), some (.int (Int32.ofInt s)), some (.int ((Int32.ofInt day) + (Int32.ofInt 1))), some (.int (Int32.ofInt 2)), some (.null), some (.int (Int32.ofInt s))], [.int (Int32.ofInt day), .int ((Int32.ofInt day) + (Int32.ofInt 1))], h4)) rfl ?_
              rw [yi_add day 1]
              refine yy_fin.ic rfl (fun cq => ?_) (fun cq => absurd ((yi_c_gt (a := day + 1) (b := day) (by omega) (by omega)).mpr (by omega)) cq)
              have cq := (yi_c_gt (a := day + 1) (b := day) (by omega) (by omega)).mp cq
              refine yy_fin.steps (n := 1) (s' := (114, [some (.ref w), some (.int (Int32.ofInt (t : Int))), some (.int (Int32.ofInt day)), some (.int (Int32.ofInt s)), some (.int (Int32.ofInt (day + 1))), some (.int (Int32.ofInt 2)), some (.null), some (.int (Int32.ofInt s))], [.null], h4)) rfl ?_
              have eR : wt_P T c day s = none := by
                unfold wt_P
                rw [e3]
                dsimp only
                rw [if_neg (by omega), if_neg (by omega), e4]
                rfl
              rw [eR]
              exact yy_fin.at (n := 1) rfl ⟨y4.le (by decide) (by decide), rfl⟩
            | some p4 =>
              obtain ⟨b4, l4⟩ := p4
              rw [e4] at r4
              obtain ⟨k4, rfl, -, o4⟩ := r4
              have bd4 := tw_H_b ok e4
              have bd4b := bd4.2.2.2.2 rfl
              obtain ⟨⟨b0, l0, f1, f2⟩, -⟩ := tw_H_1 e4
              rw [e3] at f1
              have f3 := congrArg Prod.fst (Option.some.inj f1)
              have f4 := congrArg Prod.snd (Option.some.inj f1)
              dsimp only at f3 f4
              refine yy_fin.steps (n := 1) (s' := (43, [some (.ref w), some (.int (Int32.ofInt (t : Int))), some (.int (Int32.ofInt day)), some (.int (Int32.ofInt s)), some (.int (Int32.ofInt day)), some (.int (Int32.ofInt 1)), some (.ref k4), some (.int (Int32.ofInt s))], [], h4)) rfl ?_
              refine yy_fin.steps (n := 8) (s' := (54, [some (.ref w), some (.int (Int32.ofInt (t : Int))), some (.int (Int32.ofInt day)), some (.int (Int32.ofInt s)), some (.int (Int32.ofInt day)), some (.int (Int32.ofInt 1)), some (.ref k4), some (.int (Int32.ofInt s + Int32.ofInt 86400 * (Int32.ofInt day - Int32.ofInt day)))], [], h4)) rfl ?_
              rw [yi_sub day day, yi_mul 86400 (day - day), yi_add s (86400 * (day - day)), show s + 86400 * (day - day) = s by omega]
              refine yy_fin.steps (n := 5) (s' := (64, [some (.ref w), some (.int (Int32.ofInt (t : Int))), some (.int (Int32.ofInt day)), some (.int (Int32.ofInt s)), some (.int (Int32.ofInt day)), some (.int (Int32.ofInt 1)), some (.ref k4), some (.int (Int32.ofInt s))], [.int (Int32.ofInt 0), .ref k4, .int (Int32.ofInt s)], h4)) rfl ?_
              refine yy_fin.lp rfl o4 rfl (by decide : (Int32.ofInt 0).toNatClampNeg = 0) rfl ?_
              refine yy_fin.ic rfl (fun cq => absurd ((yi_c_lt (a := s) (b := b4) (by omega) (by omega)).mp cq) (by omega)) (fun cq => ?_)
              have cq := mt (yi_c_lt (a := s) (b := b4) (by omega) (by omega)).mpr cq
              refine yy_fin.steps (n := 3) (s' := (73, [some (.ref w), some (.int (Int32.ofInt (t : Int))), some (.int (Int32.ofInt day)), some (.int (Int32.ofInt s)), some (.int (Int32.ofInt day)), some (.int (Int32.ofInt 1)), some (.ref k4), some (.int (Int32.ofInt s))], [.int (Int32.ofInt 1), .ref k4, .int (Int32.ofInt s)], h4)) rfl ?_
              refine yy_fin.lp rfl o4 rfl (by decide : (Int32.ofInt 1).toNatClampNeg = 1) rfl ?_
              refine yy_fin.ic rfl (fun cq => absurd ((yi_c_ge (a := s) (b := b4 + l4) (by omega) (by omega)).mp cq) (by omega)) (fun cq => ?_)
              have cq := mt (yi_c_ge (a := s) (b := b4 + l4) (by omega) (by omega)).mpr cq
              refine yy_fin.steps (n := 1) (s' := (78, [some (.ref w), some (.int (Int32.ofInt (t : Int))), some (.int (Int32.ofInt day)), some (.int (Int32.ofInt s)), some (.int (Int32.ofInt day)), some (.int (Int32.ofInt 1)), some (.ref k4), some (.int (Int32.ofInt s))], [.int (Int32.ofInt 3)], h4)) rfl ?_
              refine yy_fin.ni (n := 3) rfl (by decide) (by decide) (by decide) (by have := y4.1; omega) (y4.zr hz) fun h5 x5 e5 i5 z5 => ?_
              have q5 : yQ h5 (h4.1.1 + 1) 3 [] := ⟨i5, fun j v e => nomatch e⟩
              have o4n := o4.x x5 id
              have nle := o4.le
              have hle := y4.1
              refine yy_fin.steps (n := 3) (s' := (84, [some (.ref w), some (.int (Int32.ofInt (t : Int))), some (.int (Int32.ofInt day)), some (.int (Int32.ofInt s)), some (.int (Int32.ofInt day)), some (.int (Int32.ofInt 1)), some (.ref k4), some (.int (Int32.ofInt s))], [.int (Int32.ofInt day), .int (Int32.ofInt 0), .ref (h4.1.1 + 1), .ref (h4.1.1 + 1)], h5)) rfl ?_
              refine yy_fin.sq rfl q5 (by decide) rfl fun h6 x6 q6 => ?_
              have o4n := o4n.x x6 (by omega)
              refine yy_fin.steps (n := 3) (s' := (89, [some (.ref w), some (.int (Int32.ofInt (t : Int))), some (.int (Int32.ofInt day)), some (.int (Int32.ofInt s)), some (.int (Int32.ofInt day)), some (.int (Int32.ofInt 1)), some (.ref k4), some (.int (Int32.ofInt s))], [.int (Int32.ofInt 1), .int (Int32.ofInt 1), .ref (h4.1.1 + 1), .ref (h4.1.1 + 1)], h6)) rfl ?_
              refine yy_fin.sq rfl q6 (by decide) rfl fun h7 x7 q7 => ?_
              have o4n := o4n.x x7 (by omega)
              refine yy_fin.steps (n := 5) (s' := (97, [some (.ref w), some (.int (Int32.ofInt (t : Int))), some (.int (Int32.ofInt day)), some (.int (Int32.ofInt s)), some (.int (Int32.ofInt day)), some (.int (Int32.ofInt 1)), some (.ref k4), some (.int (Int32.ofInt s))], [.int (Int32.ofInt 0), .ref k4, .int (Int32.ofInt s), .int (Int32.ofInt 2), .ref (h4.1.1 + 1), .ref (h4.1.1 + 1)], h7)) rfl ?_
              refine yy_fin.lp rfl o4n rfl (by decide : (Int32.ofInt 0).toNatClampNeg = 0) rfl ?_
              refine yy_fin.steps (n := 1) (s' := (99, [some (.ref w), some (.int (Int32.ofInt (t : Int))), some (.int (Int32.ofInt day)), some (.int (Int32.ofInt s)), some (.int (Int32.ofInt day)), some (.int (Int32.ofInt 1)), some (.ref k4), some (.int (Int32.ofInt s))], [.int ((Int32.ofInt s) - (Int32.ofInt b4)), .int (Int32.ofInt 2), .ref (h4.1.1 + 1), .ref (h4.1.1 + 1)], h7)) rfl ?_
              rw [yi_sub s b4]
              refine yy_fin.sq rfl q7 (by decide) rfl fun h8 x8 q8 => ?_
              have eR : wt_P T c day s = some (day, 1, b4, l4) := by
                unfold wt_P
                rw [e3]
                dsimp only
                rw [if_neg (by omega), if_neg (by omega), e4]
                rfl
              rw [eR]
              exact yy_fin.at (n := 1) rfl ⟨((((y4.tr x5 (fun _ _ e => e)).tr x6 (fun q hq e => by omega)).tr x7 (fun q hq e => by omega)).tr x8 (fun q hq e => by omega)).le (by decide) (by decide), h4.1.1 + 1, rfl, by omega, by (try dsimp only); rw [show s + 86400 * (day - day) - b4 = s - b4 by omega]; exact q8⟩
          · have c23 := mt (yi_c_ge (a := s) (b := b3 + l3) (by omega) (by omega)).mpr c23
            refine yy_fin.steps (n := 1) (s' := (78, [some (.ref w), some (.int (Int32.ofInt (t : Int))), some (.int (Int32.ofInt day)), some (.int (Int32.ofInt s)), some (.int (Int32.ofInt day)), some (.int (Int32.ofInt 0)), some (.ref k3), some (.int (Int32.ofInt s))], [.int (Int32.ofInt 3)], h3)) rfl ?_
            refine yy_fin.ni (n := 3) rfl (by decide) (by decide) (by decide) (by have := y3.1; omega) (y3.zr hz) fun h5 x5 e5 i5 z5 => ?_
            have q5 : yQ h5 (h3.1.1 + 1) 3 [] := ⟨i5, fun j v e => nomatch e⟩
            have o3n := o3.x x5 id
            have nle := o3.le
            have hle := y3.1
            refine yy_fin.steps (n := 3) (s' := (84, [some (.ref w), some (.int (Int32.ofInt (t : Int))), some (.int (Int32.ofInt day)), some (.int (Int32.ofInt s)), some (.int (Int32.ofInt day)), some (.int (Int32.ofInt 0)), some (.ref k3), some (.int (Int32.ofInt s))], [.int (Int32.ofInt day), .int (Int32.ofInt 0), .ref (h3.1.1 + 1), .ref (h3.1.1 + 1)], h5)) rfl ?_
            refine yy_fin.sq rfl q5 (by decide) rfl fun h6 x6 q6 => ?_
            have o3n := o3n.x x6 (by omega)
            refine yy_fin.steps (n := 3) (s' := (89, [some (.ref w), some (.int (Int32.ofInt (t : Int))), some (.int (Int32.ofInt day)), some (.int (Int32.ofInt s)), some (.int (Int32.ofInt day)), some (.int (Int32.ofInt 0)), some (.ref k3), some (.int (Int32.ofInt s))], [.int (Int32.ofInt 0), .int (Int32.ofInt 1), .ref (h3.1.1 + 1), .ref (h3.1.1 + 1)], h6)) rfl ?_
            refine yy_fin.sq rfl q6 (by decide) rfl fun h7 x7 q7 => ?_
            have o3n := o3n.x x7 (by omega)
            refine yy_fin.steps (n := 5) (s' := (97, [some (.ref w), some (.int (Int32.ofInt (t : Int))), some (.int (Int32.ofInt day)), some (.int (Int32.ofInt s)), some (.int (Int32.ofInt day)), some (.int (Int32.ofInt 0)), some (.ref k3), some (.int (Int32.ofInt s))], [.int (Int32.ofInt 0), .ref k3, .int (Int32.ofInt s), .int (Int32.ofInt 2), .ref (h3.1.1 + 1), .ref (h3.1.1 + 1)], h7)) rfl ?_
            refine yy_fin.lp rfl o3n rfl (by decide : (Int32.ofInt 0).toNatClampNeg = 0) rfl ?_
            refine yy_fin.steps (n := 1) (s' := (99, [some (.ref w), some (.int (Int32.ofInt (t : Int))), some (.int (Int32.ofInt day)), some (.int (Int32.ofInt s)), some (.int (Int32.ofInt day)), some (.int (Int32.ofInt 0)), some (.ref k3), some (.int (Int32.ofInt s))], [.int ((Int32.ofInt s) - (Int32.ofInt b3)), .int (Int32.ofInt 2), .ref (h3.1.1 + 1), .ref (h3.1.1 + 1)], h7)) rfl ?_
            rw [yi_sub s b3]
            refine yy_fin.sq rfl q7 (by decide) rfl fun h8 x8 q8 => ?_
            have eR : wt_P T c day s = some (day, 0, b3, l3) := by
              unfold wt_P
              rw [e3]
              dsimp only
              rw [if_neg (by omega), if_pos (by omega)]
            rw [eR]
            exact yy_fin.at (n := 1) rfl ⟨((((y3.tr x5 (fun _ _ e => e)).tr x6 (fun q hq e => by omega)).tr x7 (fun q hq e => by omega)).tr x8 (fun q hq e => by omega)).le (by decide) (by decide), h3.1.1 + 1, rfl, by omega, by (try dsimp only); rw [show s + 86400 * (day - day) - b3 = s - b3 by omega]; exact q8⟩
      · have c22 := mt (yi_c_ge (a := s + 86400) (b := b2 + l2) (by omega) (by omega)).mpr c22
        refine yy_fin.steps (n := 1) (s' := (78, [some (.ref w), some (.int (Int32.ofInt (t : Int))), some (.int (Int32.ofInt day)), some (.int (Int32.ofInt s)), some (.int (Int32.ofInt (day - 1))), some (.int (Int32.ofInt 1)), some (.ref k2), some (.int (Int32.ofInt (s + 86400)))], [.int (Int32.ofInt 3)], h2)) rfl ?_
        refine yy_fin.ni (n := 3) rfl (by decide) (by decide) (by decide) (by have := y2.1; omega) (y2.zr hz) fun h5 x5 e5 i5 z5 => ?_
        have q5 : yQ h5 (h2.1.1 + 1) 3 [] := ⟨i5, fun j v e => nomatch e⟩
        have o2n := o2.x x5 id
        have nle := o2.le
        have hle := y2.1
        refine yy_fin.steps (n := 3) (s' := (84, [some (.ref w), some (.int (Int32.ofInt (t : Int))), some (.int (Int32.ofInt day)), some (.int (Int32.ofInt s)), some (.int (Int32.ofInt (day - 1))), some (.int (Int32.ofInt 1)), some (.ref k2), some (.int (Int32.ofInt (s + 86400)))], [.int (Int32.ofInt (day - 1)), .int (Int32.ofInt 0), .ref (h2.1.1 + 1), .ref (h2.1.1 + 1)], h5)) rfl ?_
        refine yy_fin.sq rfl q5 (by decide) rfl fun h6 x6 q6 => ?_
        have o2n := o2n.x x6 (by omega)
        refine yy_fin.steps (n := 3) (s' := (89, [some (.ref w), some (.int (Int32.ofInt (t : Int))), some (.int (Int32.ofInt day)), some (.int (Int32.ofInt s)), some (.int (Int32.ofInt (day - 1))), some (.int (Int32.ofInt 1)), some (.ref k2), some (.int (Int32.ofInt (s + 86400)))], [.int (Int32.ofInt 1), .int (Int32.ofInt 1), .ref (h2.1.1 + 1), .ref (h2.1.1 + 1)], h6)) rfl ?_
        refine yy_fin.sq rfl q6 (by decide) rfl fun h7 x7 q7 => ?_
        have o2n := o2n.x x7 (by omega)
        refine yy_fin.steps (n := 5) (s' := (97, [some (.ref w), some (.int (Int32.ofInt (t : Int))), some (.int (Int32.ofInt day)), some (.int (Int32.ofInt s)), some (.int (Int32.ofInt (day - 1))), some (.int (Int32.ofInt 1)), some (.ref k2), some (.int (Int32.ofInt (s + 86400)))], [.int (Int32.ofInt 0), .ref k2, .int (Int32.ofInt (s + 86400)), .int (Int32.ofInt 2), .ref (h2.1.1 + 1), .ref (h2.1.1 + 1)], h7)) rfl ?_
        refine yy_fin.lp rfl o2n rfl (by decide : (Int32.ofInt 0).toNatClampNeg = 0) rfl ?_
        refine yy_fin.steps (n := 1) (s' := (99, [some (.ref w), some (.int (Int32.ofInt (t : Int))), some (.int (Int32.ofInt day)), some (.int (Int32.ofInt s)), some (.int (Int32.ofInt (day - 1))), some (.int (Int32.ofInt 1)), some (.ref k2), some (.int (Int32.ofInt (s + 86400)))], [.int ((Int32.ofInt (s + 86400)) - (Int32.ofInt b2)), .int (Int32.ofInt 2), .ref (h2.1.1 + 1), .ref (h2.1.1 + 1)], h7)) rfl ?_
        rw [yi_sub (s + 86400) b2]
        refine yy_fin.sq rfl q7 (by decide) rfl fun h8 x8 q8 => ?_
        have eR : wt_P T c day s = some (day - 1, 1, b2, l2) := by
          obtain ⟨-, b0, l0, f1, f2⟩ := tw_H_1 e2
          rw [show day - 1 + 1 = day by omega] at f1
          unfold wt_P
          rw [f1]
          dsimp only
          rw [if_pos (by omega), e2]
          rfl
        rw [eR]
        exact yy_fin.at (n := 1) rfl ⟨((((y2.tr x5 (fun _ _ e => e)).tr x6 (fun q hq e => by omega)).tr x7 (fun q hq e => by omega)).tr x8 (fun q hq e => by omega)).le (by decide) (by decide), h2.1.1 + 1, rfl, by omega, by (try dsimp only); rw [show s + 86400 * (day - (day - 1)) - b2 = s + 86400 - b2 by omega]; exact q8⟩
theorem yw_over {o j : Nat} {fs : List (Option (Option Nat))} {ol : List Int32} (oO : yO h w 12 fs) (fO : fs[0]? = some (some (some o))) (oF : yP h o ol) (hol : ol.length ≤ 4) {x y day s : Int} (ea : ol[t]? = some (Int32.ofInt x)) (eb : ol[j]? = some (Int32.ofInt y)) (hx : -43200 ≤ x ∧ x ≤ 43200) (hy : -43200 ≤ y ∧ y ≤ 43200) (hd : 0 ≤ day ∧ day ≤ 100000) (hs : 0 ≤ s ∧ s ≤ 1000000) (hB : h.1.1 + 1 < yy_B) (hz : zz_Zr h) : yy_fin X 297 (0, zz_in [.ref w, .int (Int32.ofInt (t : Int)), .int (Int32.ofInt day), .long (Int64.ofInt s), .int (Int32.ofInt (j : Int))] (zz_nl 297), [], h) (fun r h' => ∃ k, r = some (.ref k) ∧ yx yF 1 2 h h' ∧ h.1.1 < k ∧ yP h' k [Int32.ofInt ((day * 86400 + s - x + y + 86400000) / 86400 - 1000), Int32.ofInt ((day * 86400 + s - x + y + 86400000) % 86400)]) := by
  have la := (List.getElem?_eq_some_iff.mp ea).1
  have lb := (List.getElem?_eq_some_iff.mp eb).1
  refine yy_fin.steps (n := 7) (s' := (9, [some (.ref w), some (.int (Int32.ofInt (t : Int))), some (.int (Int32.ofInt day)), some (.long (Int64.ofInt s)), none, some (.int (Int32.ofInt (j : Int))), none, none], [.ref w, .long ((((Int32.ofInt day).toInt64) * (Int64.ofInt 86400)) + (Int64.ofInt s))], h)) rfl ?_
  rw [yl_i2l (a := day) (by omega)]
  rw [yl_mul day 86400]
  rw [yl_add (day * 86400) s]
  refine yy_fin.fr rfl oO fO ?_
  refine yy_fin.steps (n := 1) (s' := (13, [some (.ref w), some (.int (Int32.ofInt (t : Int))), some (.int (Int32.ofInt day)), some (.long (Int64.ofInt s)), none, some (.int (Int32.ofInt (j : Int))), none, none], [.int (Int32.ofInt (t : Int)), .ref o, .long (Int64.ofInt ((day * 86400) + s))], h)) rfl ?_
  refine yy_fin.lp rfl oF (yi_inb (a := (t : Int)) (by omega) (by omega) (by omega)) ((yi_cl (a := (t : Int)) (by omega)).trans (Int.toNat_natCast t)) ea ?_
  refine yy_fin.steps (n := 3) (s' := (17, [some (.ref w), some (.int (Int32.ofInt (t : Int))), some (.int (Int32.ofInt day)), some (.long (Int64.ofInt s)), none, some (.int (Int32.ofInt (j : Int))), none, none], [.ref w, .long ((Int64.ofInt ((day * 86400) + s)) - ((Int32.ofInt x).toInt64))], h)) rfl ?_
  rw [yl_i2l (a := x) (by omega)]
  rw [yl_sub ((day * 86400) + s) x]
  refine yy_fin.fr rfl oO fO ?_
  refine yy_fin.steps (n := 1) (s' := (22, [some (.ref w), some (.int (Int32.ofInt (t : Int))), some (.int (Int32.ofInt day)), some (.long (Int64.ofInt s)), none, some (.int (Int32.ofInt (j : Int))), none, none], [.int (Int32.ofInt (j : Int)), .ref o, .long (Int64.ofInt (((day * 86400) + s) - x))], h)) rfl ?_
  refine yy_fin.lp rfl oF (yi_inb (a := (j : Int)) (by omega) (by omega) (by omega)) ((yi_cl (a := (j : Int)) (by omega)).trans (Int.toNat_natCast j)) eb ?_
  refine yy_fin.steps (n := 6) (s' := (32, [some (.ref w), some (.int (Int32.ofInt (t : Int))), some (.int (Int32.ofInt day)), some (.long (Int64.ofInt s)), none, some (.int (Int32.ofInt (j : Int))), some (.long (((Int64.ofInt (((day * 86400) + s) - x)) + ((Int32.ofInt y).toInt64)) + (Int64.ofInt 86400000))), none], [.int (Int32.ofInt 2)], h)) rfl ?_
  rw [yl_i2l (a := y) (by omega)]
  rw [yl_add (((day * 86400) + s) - x) y]
  rw [yl_add ((((day * 86400) + s) - x) + y) 86400000]
  refine yy_fin.ni (n := 2) rfl (by decide) (by decide) (by decide) hB hz fun h1 x1 e1 i1 z1 => ?_
  have q1 : yQ h1 (h.1.1 + 1) 2 [] := ⟨i1, fun j v e => nomatch e⟩
  refine yy_fin.steps (n := 4) (s' := (41, [some (.ref w), some (.int (Int32.ofInt (t : Int))), some (.int (Int32.ofInt day)), some (.long (Int64.ofInt s)), none, some (.int (Int32.ofInt (j : Int))), some (.long (Int64.ofInt (((((day * 86400) + s) - x) + y) + 86400000))), none], [.long (Int64.ofInt 86400), .long (Int64.ofInt (((((day * 86400) + s) - x) + y) + 86400000)), .int (Int32.ofInt 0), .ref (h.1.1 + 1), .ref (h.1.1 + 1)], h1)) rfl ?_
  refine yy_fin.ld rfl (by decide) ?_
  rw [yl_div (a := day * 86400 + s - x + y + 86400000) (b := 86400) (by omega) (by omega)]
  refine yy_fin.steps (n := 3) (s' := (47, [some (.ref w), some (.int (Int32.ofInt (t : Int))), some (.int (Int32.ofInt day)), some (.long (Int64.ofInt s)), none, some (.int (Int32.ofInt (j : Int))), some (.long (Int64.ofInt (((((day * 86400) + s) - x) + y) + 86400000))), none], [.int (((Int64.ofInt ((day * 86400 + s - x + y + 86400000) / 86400)).toInt32) - (Int32.ofInt 1000)), .int (Int32.ofInt 0), .ref (h.1.1 + 1), .ref (h.1.1 + 1)], h1)) rfl ?_
  rw [yl_l2i ((day * 86400 + s - x + y + 86400000) / 86400)]
  rw [yi_sub ((day * 86400 + s - x + y + 86400000) / 86400) 1000]
  refine yy_fin.sq rfl q1 (by decide) rfl fun h2 x2 q2 => ?_
  refine yy_fin.steps (n := 4) (s' := (55, [some (.ref w), some (.int (Int32.ofInt (t : Int))), some (.int (Int32.ofInt day)), some (.long (Int64.ofInt s)), none, some (.int (Int32.ofInt (j : Int))), some (.long (Int64.ofInt (((((day * 86400) + s) - x) + y) + 86400000))), none], [.long (Int64.ofInt 86400), .long (Int64.ofInt (((((day * 86400) + s) - x) + y) + 86400000)), .int (Int32.ofInt 1), .ref (h.1.1 + 1), .ref (h.1.1 + 1)], h2)) rfl ?_
  refine yy_fin.lm rfl (by decide) ?_
  rw [yl_rem (a := day * 86400 + s - x + y + 86400000) (b := 86400) (by omega) (by omega)]
  refine yy_fin.steps (n := 1) (s' := (57, [some (.ref w), some (.int (Int32.ofInt (t : Int))), some (.int (Int32.ofInt day)), some (.long (Int64.ofInt s)), none, some (.int (Int32.ofInt (j : Int))), some (.long (Int64.ofInt (((((day * 86400) + s) - x) + y) + 86400000))), none], [.int ((Int64.ofInt ((day * 86400 + s - x + y + 86400000) % 86400)).toInt32), .int (Int32.ofInt 1), .ref (h.1.1 + 1), .ref (h.1.1 + 1)], h2)) rfl ?_
  rw [yl_l2i ((day * 86400 + s - x + y + 86400000) % 86400)]
  refine yy_fin.sq rfl q2 (by decide) rfl fun h3 x3 q3 => ?_
  exact yy_fin.at (n := 1) rfl ⟨h.1.1 + 1, rfl, ((x1.tr x2 (fun q hq e => by omega)).tr x3 (fun q hq e => by omega)).le (Nat.le_refl _) (Nat.le_refl _), Nat.lt_succ_self _, q3⟩
end YW2
