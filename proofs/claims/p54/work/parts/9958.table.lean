/-! W: how many points, a table of a day, a half of a day (printed by wip/p54/w1.py) -/
def yTb (own : yOwn) (h : zz_H) (w t : Nat) (T : Nat → Nat → Int) (c : Nat) : Prop := ∃ o p b tx q rs rq, yO h w 12 [some (some o), some (some p), some (some b), none, some tx, none, none, none, none] ∧ yR h p 6 rs ∧ rs[t]? = some (some q) ∧ rs.length ≤ 4 ∧ t < rs.length ∧ yR h q 5 rq ∧ rq.length = 360 ∧ ∀ y : Int, 0 ≤ y → y < 360 → (∀ i, i < c → T 1 i = y → ∃ k, rq[y.toNat]? = some (some k) ∧ own k = 0 ∧ yP h k (tw_row T i)) ∧ ((∀ i, i < c → T 1 i ≠ y) → rq[y.toNat]? = some none)
theorem yWo.tb {own : yOwn} {h : zz_H} {w t : Nat} {S : yWd} {T : yTw} (W : yWo own h w S) (hS : S.1.length ≤ 4) (e : S.1[t]? = some T) : yTb own h w t T.2.1 T.2.2 := by
  obtain ⟨-, o, p, b, tx, o1, -, -, ⟨-, rs, p2, p3, p4⟩, -⟩ := W
  obtain ⟨q, e1, -, rq, q1, q2, q3⟩ := p4 t T e
  refine ⟨o, p, b, tx, q, rs, rq, o1, p2, e1, by omega, (List.getElem?_eq_some_iff.mp e1).1, q1, q2, fun y h1 h2 => ?_⟩
  obtain ⟨a1, a2⟩ := q3 y.toNat (by omega)
  rw [show ((y.toNat : Nat) : Int) = y by omega] at a1 a2
  exact ⟨a1, a2⟩
theorem yTb.f {own : yOwn} {h h' : zz_H} {w t a d : Nat} {T : Nat → Nat → Int} {c : Nat} (W : yTb own h w t T c) (x : yx yF a d h h') : yTb own h' w t T c := by
  obtain ⟨o, p, b, tx, q, rs, rq, oW, oP, eP, lP, tP, oQ, lQ, aQ⟩ := W
  refine ⟨o, p, b, tx, q, rs, rq, oW.x x id, oP.x x id, eP, lP, tP, oQ.x x id, lQ, fun y h1 h2 => ⟨fun i hi e => ?_, (aQ y h1 h2).2⟩⟩
  obtain ⟨k, e1, e2, e3⟩ := (aQ y h1 h2).1 i hi e
  exact ⟨k, e1, e2, e3.x x id⟩
section YW1
variable {X : yy_X} {own : yOwn} {h : zz_H} {w t : Nat} {T : Nat → Nat → Int} {c : Nat}
theorem yw_mL (W : yTb own h w t T c) (ok : tw_ok T c) {q : Nat} {rq : List (Option Nat)} (oQ : yR h q 5 rq) (lQ : rq.length = 360) (aQ : ∀ y : Int, 0 ≤ y → y < 360 → (∀ i, i < c → T 1 i = y → ∃ k, rq[y.toNat]? = some (some k) ∧ own k = 0 ∧ yP h k (tw_row T i)) ∧ ((∀ i, i < c → T 1 i ≠ y) → rq[y.toNat]? = some none)) : ∀ (d : Nat) (y n : Int) (a6 : Option Value), 0 ≤ y → y + d = 360 → n = (tw_k T (y - 1) c : Nat) → yy_fin X 282 (16, [some (.ref w), some (.int (Int32.ofInt (t : Int))), some (.int (Int32.ofInt n)), some (.ref q), some (.int (Int32.ofInt 360)), some (.int (Int32.ofInt y)), a6], [], h) (fun r h' => r = some (.int (Int32.ofInt (c : Int))) ∧ h' = h)
  | 0, y, n, a6, h0, hy, hn => by
    have hc := ok.1
    rw [show y - 1 = 359 by omega, yw_tc ok] at hn
    refine yy_fin.steps (n := 2) (s' := (20, [some (.ref w), some (.int (Int32.ofInt (t : Int))), some (.int (Int32.ofInt n)), some (.ref q), some (.int (Int32.ofInt 360)), some (.int (Int32.ofInt y)), a6], [.int (Int32.ofInt 360), .int (Int32.ofInt y)], h)) rfl ?_
    refine yy_fin.ic rfl (fun cq => ?_) (fun cq => absurd ((yi_c_ge (a := y) (b := 360) (by omega) (by omega)).mpr (by omega)) cq)
    have cq := (yi_c_ge (a := y) (b := 360) (by omega) (by omega)).mp cq
    refine yy_fin.steps (n := 1) (s' := (49, [some (.ref w), some (.int (Int32.ofInt (t : Int))), some (.int (Int32.ofInt n)), some (.ref q), some (.int (Int32.ofInt 360)), some (.int (Int32.ofInt y)), a6], [.int (Int32.ofInt n)], h)) rfl ?_
    subst hn
    exact yy_fin.at (n := 1) rfl ⟨rfl, rfl⟩
  | d + 1, y, n, a6, h0, hy, hn => by
    have hk := tw_k_le T (y - 1) c
    have hc := ok.1
    refine yy_fin.steps (n := 2) (s' := (20, [some (.ref w), some (.int (Int32.ofInt (t : Int))), some (.int (Int32.ofInt n)), some (.ref q), some (.int (Int32.ofInt 360)), some (.int (Int32.ofInt y)), a6], [.int (Int32.ofInt 360), .int (Int32.ofInt y)], h)) rfl ?_
    refine yy_fin.ic rfl (fun cq => absurd ((yi_c_ge (a := y) (b := 360) (by omega) (by omega)).mp cq) (by omega)) (fun cq => ?_)
    have cq := mt (yi_c_ge (a := y) (b := 360) (by omega) (by omega)).mpr cq
    refine yy_fin.steps (n := 2) (s' := (26, [some (.ref w), some (.int (Int32.ofInt (t : Int))), some (.int (Int32.ofInt n)), some (.ref q), some (.int (Int32.ofInt 360)), some (.int (Int32.ofInt y)), a6], [.int (Int32.ofInt y), .ref q], h)) rfl ?_
    obtain ⟨s1, s2⟩ := yw_tk ok y
    by_cases hd : ∃ i, i < c ∧ T 1 i = y
    · obtain ⟨i, hi, ei⟩ := hd
      obtain ⟨k, e1, -, -⟩ := (aQ y h0 (by omega)).1 i hi ei
      have s1 := s1 i hi ei
      refine yy_fin.ar rfl oQ (by decide) (yi_inb (a := y) (by omega) (by omega) (by omega)) (yi_cl (a := y) (by omega)) e1 ?_
      refine yy_fin.steps (n := 9) (s' := (16, [some (.ref w), some (.int (Int32.ofInt (t : Int))), some (.int ((Int32.ofInt n) + (Int32.ofInt 1))), some (.ref q), some (.int (Int32.ofInt 360)), some (.int ((Int32.ofInt y) + (Int32.ofInt 1))), some (.ref k)], [], h)) rfl ?_
      rw [yi_add n 1]
      rw [yi_add y 1]
      exact yw_mL W ok oQ lQ aQ d (y + 1) (n + 1) _ (by omega) (by omega) (by rw [show y + 1 - 1 = y by omega]; omega)
    · have s2 := s2 fun i hi ei => hd ⟨i, hi, ei⟩
      have e1 := (aQ y h0 (by omega)).2 fun i hi ei => hd ⟨i, hi, ei⟩
      refine yy_fin.ar rfl oQ (by decide) (yi_inb (a := y) (by omega) (by omega) (by omega)) (yi_cl (a := y) (by omega)) e1 ?_
      refine yy_fin.steps (n := 10) (s' := (16, [some (.ref w), some (.int (Int32.ofInt (t : Int))), some (.int ((Int32.ofInt n) + (Int32.ofInt 0))), some (.ref q), some (.int (Int32.ofInt 360)), some (.int ((Int32.ofInt y) + (Int32.ofInt 1))), some (.null)], [], h)) rfl ?_
      rw [yi_add n 0]
      rw [yi_add y 1]
      exact yw_mL W ok oQ lQ aQ d (y + 1) (n + 0) _ (by omega) (by omega) (by rw [show y + 1 - 1 = y by omega]; omega)
theorem yw_many (W : yTb own h w t T c) (ok : tw_ok T c) : yy_fin X 282 (0, zz_in [.ref w, .int (Int32.ofInt (t : Int))] (zz_nl 282), [], h) (fun r h' => r = some (.int (Int32.ofInt (c : Int))) ∧ h' = h) := by
  obtain ⟨o, p, b, tx, q, rs, rq, oW, oP, eP, lP, tP, oQ, lQ, aQ⟩ := W
  refine yy_fin.steps (n := 3) (s' := (3, [some (.ref w), some (.int (Int32.ofInt (t : Int))), some (.int (Int32.ofInt 0)), none, none, none, none], [.ref w], h)) rfl ?_
  refine yy_fin.fr rfl oW rfl ?_
  refine yy_fin.steps (n := 1) (s' := (7, [some (.ref w), some (.int (Int32.ofInt (t : Int))), some (.int (Int32.ofInt 0)), none, none, none, none], [.int (Int32.ofInt (t : Int)), .ref p], h)) rfl ?_
  refine yy_fin.ar rfl oP (by decide) (yi_inb (a := (t : Int)) (by omega) (by omega) (by omega)) ((yi_cl (a := (t : Int)) (by omega)).trans (Int.toNat_natCast t)) eP ?_
  refine yy_fin.steps (n := 2) (s' := (10, [some (.ref w), some (.int (Int32.ofInt (t : Int))), some (.int (Int32.ofInt 0)), some (.ref q), none, none, none], [.ref q], h)) rfl ?_
  refine yy_fin.lr rfl oQ (by decide) ?_
  rw [lQ]
  refine yy_fin.steps (n := 3) (s' := (16, [some (.ref w), some (.int (Int32.ofInt (t : Int))), some (.int (Int32.ofInt 0)), some (.ref q), some (.int (Int32.ofInt 360)), some (.int (Int32.ofInt 0)), none], [], h)) rfl ?_
  exact yw_mL (c := c) ⟨o, p, b, tx, q, rs, rq, oW, oP, eP, lP, tP, oQ, lQ, aQ⟩ ok oQ lQ aQ 360 0 0 none (by omega) (by omega) (by rw [show (0 : Int) - 1 = -1 by omega, yw_t0 ok]; rfl)
theorem yw_step {a e k n : Int} (ha : -1 ≤ a ∧ a ≤ 86399) (he : -1 ≤ e ∧ e ≤ 86399) (hk : 0 ≤ k ∧ k ≤ 720) (hn : 1 ≤ n ∧ n ≤ 1440) : yy_fin X 283 (0, zz_in [.int (Int32.ofInt a), .int (Int32.ofInt e), .int (Int32.ofInt k), .int (Int32.ofInt n)] (zz_nl 283), [], h) (fun r h' => r = some (.int (Int32.ofInt (a + (e - a) * k / n))) ∧ h' = h) := by
  have hb := yi_pb (a := e - a) (b := k) (x := 86400) (y := 720) (by omega) hk
  have ht := yl_tb (v := (e - a) * k) (n := n) (by omega)
  have hn0 : Int64.ofInt n ≠ 0 := fun z => by
    have z := Int64.toInt_inj.mpr z
    rw [yl_T (by omega), show (0 : Int64).toInt = 0 from rfl] at z
    omega
  refine yy_fin.steps (n := 11) (s' := (13, [some (.int (Int32.ofInt a)), some (.int (Int32.ofInt e)), some (.int (Int32.ofInt k)), some (.int (Int32.ofInt n)), some (.long ((((Int32.ofInt e) - (Int32.ofInt a)).toInt64) * ((Int32.ofInt k).toInt64))), none, none, none], [.long ((Int32.ofInt n).toInt64), .long ((((Int32.ofInt e) - (Int32.ofInt a)).toInt64) * ((Int32.ofInt k).toInt64))], h)) rfl ?_
  rw [yl_i2l (a := n) (by omega)]
  rw [yi_sub e a]
  rw [yl_i2l (a := e - a) (by omega)]
  rw [yl_i2l (a := k) (by omega)]
  rw [yl_mul (e - a) k]
  refine yy_fin.ld rfl hn0 ?_
  rw [yl_tdiv (a := (e - a) * k) (b := n) (by omega) (by omega)]
  refine yy_fin.steps (n := 9) (s' := (26, [some (.int (Int32.ofInt a)), some (.int (Int32.ofInt e)), some (.int (Int32.ofInt k)), some (.int (Int32.ofInt n)), some (.long (Int64.ofInt ((e - a) * k))), none, some (.long (Int64.ofInt (((e - a) * k).tdiv n))), none], [.int (lg_cmp (Int64.ofInt ((e - a) * k)) ((Int64.ofInt (((e - a) * k).tdiv n)) * ((Int32.ofInt n).toInt64))), .long ((Int32.ofInt a).toInt64)], h)) rfl ?_
  rw [yl_i2l (a := n) (by omega)]
  rw [yl_mul (((e - a) * k).tdiv n) n]
  rw [yl_i2l (a := a) (by omega)]
  refine yy_fin.if rfl (fun c1 => ?_) (fun c1 => ?_)
  · have c1 := (yl_ge (by omega) (by omega)).mp c1
    have e9 := yl_floor (v := (e - a) * k) (n := n) (by omega)
    rw [if_pos c1] at e9
    refine yy_fin.steps (n := 3) (s' := (40, [some (.int (Int32.ofInt a)), some (.int (Int32.ofInt e)), some (.int (Int32.ofInt k)), some (.int (Int32.ofInt n)), some (.long (Int64.ofInt ((e - a) * k))), none, some (.long (Int64.ofInt (((e - a) * k).tdiv n))), none], [.int (((Int64.ofInt a) + (Int64.ofInt (((e - a) * k).tdiv n))).toInt32)], h)) rfl ?_
    rw [yl_add a (((e - a) * k).tdiv n)]
    rw [yl_l2i (a + (((e - a) * k).tdiv n))]
    exact yy_fin.at (n := 1) rfl ⟨by rw [e9], rfl⟩
  · have c1 := mt (yl_ge (a := (e - a) * k) (b := ((e - a) * k).tdiv n * n) (by omega) (by omega)).mpr c1
    have e9 := yl_floor (v := (e - a) * k) (n := n) (by omega)
    rw [if_neg c1] at e9
    refine yy_fin.steps (n := 6) (s' := (40, [some (.int (Int32.ofInt a)), some (.int (Int32.ofInt e)), some (.int (Int32.ofInt k)), some (.int (Int32.ofInt n)), some (.long (Int64.ofInt ((e - a) * k))), none, some (.long (Int64.ofInt (((e - a) * k).tdiv n))), none], [.int (((Int64.ofInt a) + ((Int64.ofInt (((e - a) * k).tdiv n)) - (Int64.ofInt 1))).toInt32)], h)) rfl ?_
    rw [yl_sub (((e - a) * k).tdiv n) 1]
    rw [yl_add a ((((e - a) * k).tdiv n) - 1)]
    rw [yl_l2i (a + ((((e - a) * k).tdiv n) - 1))]
    exact yy_fin.at (n := 1) rfl ⟨by rw [e9], rfl⟩
theorem yw_aL (W : yTb own h w t T c) (ok : tw_ok T c) {v day : Int} (hv : 0 ≤ v ∧ v ≤ 359) (hc : 0 < c) (as : Int) (eas : as = (v - T 1 (tw_A T v c)) % 360) (bs : Int) (ebs : bs = (T 1 (tw_B T v c) - v) % 360) {φ : Option Value → zz_H → Prop} (kk : yy_fin X 281 (53, [some (.ref w), some (.int (Int32.ofInt (t : Int))), some (.int (Int32.ofInt day)), some (.int (Int32.ofInt v)), some (.int (Int32.ofInt as)), none, none, none], [], h) φ) : ∀ (d : Nat) (a : Int), 0 ≤ a → a + d = as → yy_fin X 281 (25, [some (.ref w), some (.int (Int32.ofInt (t : Int))), some (.int (Int32.ofInt day)), some (.int (Int32.ofInt v)), some (.int (Int32.ofInt a)), none, none, none], [], h) φ
  | 0, a, h0, ha => by
    obtain ⟨o, p, b, tx, q, rs, rq, oW, oP, eP, lP, tP, oQ, lQ, aQ⟩ := id W
    have bA := ok.2.1 _ (tw_A_lt (w := T) (v := v) hc)
    have bB := ok.2.1 _ (tw_B_lt (w := T) (v := v) hc)
    have ea : a = as := by omega
    rw [ea]
    refine yy_fin.steps (n := 1) (s' := (26, [some (.ref w), some (.int (Int32.ofInt (t : Int))), some (.int (Int32.ofInt day)), some (.int (Int32.ofInt v)), some (.int (Int32.ofInt as)), none, none, none], [.ref w], h)) rfl ?_
    refine yy_fin.fr rfl oW rfl ?_
    refine yy_fin.steps (n := 1) (s' := (30, [some (.ref w), some (.int (Int32.ofInt (t : Int))), some (.int (Int32.ofInt day)), some (.int (Int32.ofInt v)), some (.int (Int32.ofInt as)), none, none, none], [.int (Int32.ofInt (t : Int)), .ref p], h)) rfl ?_
    refine yy_fin.ar rfl oP (by decide) (yi_inb (a := (t : Int)) (by omega) (by omega) (by omega)) ((yi_cl (a := (t : Int)) (by omega)).trans (Int.toNat_natCast t)) eP ?_
    refine yy_fin.steps (n := 6) (s' := (42, [some (.ref w), some (.int (Int32.ofInt (t : Int))), some (.int (Int32.ofInt day)), some (.int (Int32.ofInt v)), some (.int (Int32.ofInt as)), none, none, none], [.int (Int32.ofInt 360), .int (((Int32.ofInt v) - (Int32.ofInt as)) + (Int32.ofInt 360)), .ref q], h)) rfl ?_
    rw [yi_sub v as]
    rw [yi_add (v - as) 360]
    refine yy_fin.rm rfl (by decide) ?_
    rw [yi_rem (a := v - as + 360) (b := 360) (by omega) (by omega)]
    obtain ⟨k, e1, -, -⟩ := (aQ ((v - as + 360) % 360) (by omega) (by omega)).1 _ (tw_A_lt (w := T) (v := v) hc) (by omega)
    refine yy_fin.ar rfl oQ (by decide) (yi_inb (a := (v - as + 360) % 360) (by omega) (by omega) (by omega)) (yi_cl (a := (v - as + 360) % 360) (by omega)) e1 ?_
    refine yy_fin.steps (n := 1) (s' := (53, [some (.ref w), some (.int (Int32.ofInt (t : Int))), some (.int (Int32.ofInt day)), some (.int (Int32.ofInt v)), some (.int (Int32.ofInt as)), none, none, none], [], h)) rfl ?_
    exact kk
  | d + 1, a, h0, ha => by
    obtain ⟨o, p, b, tx, q, rs, rq, oW, oP, eP, lP, tP, oQ, lQ, aQ⟩ := id W
    have bA := ok.2.1 _ (tw_A_lt (w := T) (v := v) hc)
    have bB := ok.2.1 _ (tw_B_lt (w := T) (v := v) hc)
    refine yy_fin.steps (n := 1) (s' := (26, [some (.ref w), some (.int (Int32.ofInt (t : Int))), some (.int (Int32.ofInt day)), some (.int (Int32.ofInt v)), some (.int (Int32.ofInt a)), none, none, none], [.ref w], h)) rfl ?_
    refine yy_fin.fr rfl oW rfl ?_
    refine yy_fin.steps (n := 1) (s' := (30, [some (.ref w), some (.int (Int32.ofInt (t : Int))), some (.int (Int32.ofInt day)), some (.int (Int32.ofInt v)), some (.int (Int32.ofInt a)), none, none, none], [.int (Int32.ofInt (t : Int)), .ref p], h)) rfl ?_
    refine yy_fin.ar rfl oP (by decide) (yi_inb (a := (t : Int)) (by omega) (by omega) (by omega)) ((yi_cl (a := (t : Int)) (by omega)).trans (Int.toNat_natCast t)) eP ?_
    refine yy_fin.steps (n := 6) (s' := (42, [some (.ref w), some (.int (Int32.ofInt (t : Int))), some (.int (Int32.ofInt day)), some (.int (Int32.ofInt v)), some (.int (Int32.ofInt a)), none, none, none], [.int (Int32.ofInt 360), .int (((Int32.ofInt v) - (Int32.ofInt a)) + (Int32.ofInt 360)), .ref q], h)) rfl ?_
    rw [yi_sub v a]
    rw [yi_add (v - a) 360]
    refine yy_fin.rm rfl (by decide) ?_
    rw [yi_rem (a := v - a + 360) (b := 360) (by omega) (by omega)]
    have e1 := (aQ ((v - a + 360) % 360) (by omega) (by omega)).2 fun i hi ei => yw_A ok hc hv h0 (by omega) i hi (by omega)
    refine yy_fin.ar rfl oQ (by decide) (yi_inb (a := (v - a + 360) % 360) (by omega) (by omega) (by omega)) (yi_cl (a := (v - a + 360) % 360) (by omega)) e1 ?_
    refine yy_fin.steps (n := 3) (s' := (25, [some (.ref w), some (.int (Int32.ofInt (t : Int))), some (.int (Int32.ofInt day)), some (.int (Int32.ofInt v)), some (.int ((Int32.ofInt a) + (Int32.ofInt 1))), none, none, none], [], h)) rfl ?_
    rw [yi_add a 1]
    exact yw_aL W ok hv hc as eas bs ebs kk d (a + 1) (by omega) (by omega)
theorem yw_bL (W : yTb own h w t T c) (ok : tw_ok T c) {v day : Int} (hv : 0 ≤ v ∧ v ≤ 359) (hc : 0 < c) (as : Int) (eas : as = (v - T 1 (tw_A T v c)) % 360) (bs : Int) (ebs : bs = (T 1 (tw_B T v c) - v) % 360) {φ : Option Value → zz_H → Prop} (kk : yy_fin X 281 (80, [some (.ref w), some (.int (Int32.ofInt (t : Int))), some (.int (Int32.ofInt day)), some (.int (Int32.ofInt v)), some (.int (Int32.ofInt as)), some (.int (Int32.ofInt bs)), none, none], [], h) φ) : ∀ (d : Nat) (a : Int), 0 ≤ a → a + d = bs → yy_fin X 281 (56, [some (.ref w), some (.int (Int32.ofInt (t : Int))), some (.int (Int32.ofInt day)), some (.int (Int32.ofInt v)), some (.int (Int32.ofInt as)), some (.int (Int32.ofInt a)), none, none], [], h) φ
  | 0, a, h0, ha => by
    obtain ⟨o, p, b, tx, q, rs, rq, oW, oP, eP, lP, tP, oQ, lQ, aQ⟩ := id W
    have bA := ok.2.1 _ (tw_A_lt (w := T) (v := v) hc)
    have bB := ok.2.1 _ (tw_B_lt (w := T) (v := v) hc)
    have ea : a = bs := by omega
    rw [ea]
    refine yy_fin.steps (n := 1) (s' := (57, [some (.ref w), some (.int (Int32.ofInt (t : Int))), some (.int (Int32.ofInt day)), some (.int (Int32.ofInt v)), some (.int (Int32.ofInt as)), some (.int (Int32.ofInt bs)), none, none], [.ref w], h)) rfl ?_
    refine yy_fin.fr rfl oW rfl ?_
    refine yy_fin.steps (n := 1) (s' := (61, [some (.ref w), some (.int (Int32.ofInt (t : Int))), some (.int (Int32.ofInt day)), some (.int (Int32.ofInt v)), some (.int (Int32.ofInt as)), some (.int (Int32.ofInt bs)), none, none], [.int (Int32.ofInt (t : Int)), .ref p], h)) rfl ?_
    refine yy_fin.ar rfl oP (by decide) (yi_inb (a := (t : Int)) (by omega) (by omega) (by omega)) ((yi_cl (a := (t : Int)) (by omega)).trans (Int.toNat_natCast t)) eP ?_
    refine yy_fin.steps (n := 4) (s' := (69, [some (.ref w), some (.int (Int32.ofInt (t : Int))), some (.int (Int32.ofInt day)), some (.int (Int32.ofInt v)), some (.int (Int32.ofInt as)), some (.int (Int32.ofInt bs)), none, none], [.int (Int32.ofInt 360), .int ((Int32.ofInt v) + (Int32.ofInt bs)), .ref q], h)) rfl ?_
    rw [yi_add v bs]
    refine yy_fin.rm rfl (by decide) ?_
    rw [yi_rem (a := v + bs) (b := 360) (by omega) (by omega)]
    obtain ⟨k, e1, -, -⟩ := (aQ ((v + bs) % 360) (by omega) (by omega)).1 _ (tw_B_lt (w := T) (v := v) hc) (by omega)
    refine yy_fin.ar rfl oQ (by decide) (yi_inb (a := (v + bs) % 360) (by omega) (by omega) (by omega)) (yi_cl (a := (v + bs) % 360) (by omega)) e1 ?_
    refine yy_fin.steps (n := 1) (s' := (80, [some (.ref w), some (.int (Int32.ofInt (t : Int))), some (.int (Int32.ofInt day)), some (.int (Int32.ofInt v)), some (.int (Int32.ofInt as)), some (.int (Int32.ofInt bs)), none, none], [], h)) rfl ?_
    exact kk
  | d + 1, a, h0, ha => by
    obtain ⟨o, p, b, tx, q, rs, rq, oW, oP, eP, lP, tP, oQ, lQ, aQ⟩ := id W
    have bA := ok.2.1 _ (tw_A_lt (w := T) (v := v) hc)
    have bB := ok.2.1 _ (tw_B_lt (w := T) (v := v) hc)
    refine yy_fin.steps (n := 1) (s' := (57, [some (.ref w), some (.int (Int32.ofInt (t : Int))), some (.int (Int32.ofInt day)), some (.int (Int32.ofInt v)), some (.int (Int32.ofInt as)), some (.int (Int32.ofInt a)), none, none], [.ref w], h)) rfl ?_
    refine yy_fin.fr rfl oW rfl ?_
    refine yy_fin.steps (n := 1) (s' := (61, [some (.ref w), some (.int (Int32.ofInt (t : Int))), some (.int (Int32.ofInt day)), some (.int (Int32.ofInt v)), some (.int (Int32.ofInt as)), some (.int (Int32.ofInt a)), none, none], [.int (Int32.ofInt (t : Int)), .ref p], h)) rfl ?_
    refine yy_fin.ar rfl oP (by decide) (yi_inb (a := (t : Int)) (by omega) (by omega) (by omega)) ((yi_cl (a := (t : Int)) (by omega)).trans (Int.toNat_natCast t)) eP ?_
    refine yy_fin.steps (n := 4) (s' := (69, [some (.ref w), some (.int (Int32.ofInt (t : Int))), some (.int (Int32.ofInt day)), some (.int (Int32.ofInt v)), some (.int (Int32.ofInt as)), some (.int (Int32.ofInt a)), none, none], [.int (Int32.ofInt 360), .int ((Int32.ofInt v) + (Int32.ofInt a)), .ref q], h)) rfl ?_
    rw [yi_add v a]
    refine yy_fin.rm rfl (by decide) ?_
    rw [yi_rem (a := v + a) (b := 360) (by omega) (by omega)]
    have e1 := (aQ ((v + a) % 360) (by omega) (by omega)).2 fun i hi ei => yw_B ok hc hv h0 (by omega) i hi (by omega)
    refine yy_fin.ar rfl oQ (by decide) (yi_inb (a := (v + a) % 360) (by omega) (by omega) (by omega)) (yi_cl (a := (v + a) % 360) (by omega)) e1 ?_
    refine yy_fin.steps (n := 3) (s' := (56, [some (.ref w), some (.int (Int32.ofInt (t : Int))), some (.int (Int32.ofInt day)), some (.int (Int32.ofInt v)), some (.int (Int32.ofInt as)), some (.int ((Int32.ofInt a) + (Int32.ofInt 1))), none, none], [], h)) rfl ?_
    rw [yi_add a 1]
    exact yw_bL W ok hv hc as eas bs ebs kk d (a + 1) (by omega) (by omega)
theorem yw_tC (ok : tw_ok T c) {v day : Int} (hv : 0 ≤ v ∧ v ≤ 359) (hc : 0 < c) (as : Int) (eas : as = (v - T 1 (tw_A T v c)) % 360) (bs : Int) (ebs : bs = (T 1 (tw_B T v c) - v) % 360) {kA kB : Nat} (oA : yP h kA (tw_row T (tw_A T v c))) (wA : own kA = 0) (oB : yP h kB (tw_row T (tw_B T v c))) (wB : own kB = 0) (hB : h.1.1 + 1 < yy_B) (hz : zz_Zr h) : yy_fin X 281 (118, [some (.ref w), some (.int (Int32.ofInt (t : Int))), some (.int (Int32.ofInt day)), some (.int (Int32.ofInt v)), some (.int (Int32.ofInt as)), some (.int (Int32.ofInt bs)), some (.ref kA), some (.ref kB)], [], h) (fun r h' => ∃ k, r = some (.ref k) ∧ yx yF 1 2 h h' ∧ (own k = 0 ∨ h.1.1 < k) ∧ yP h' k (if tw_P T v c = -1 then [Int32.ofInt (tw_D T v c 2), Int32.ofInt (tw_D T v c 3)] else [Int32.ofInt (tw_P T v c)])) := by
  have hap := fun o => tw_apart ok hc hv o
  rw [← eas, ← ebs] at hap
  have pA := ok.2.2.2 _ (tw_A_lt (w := T) (v := v) hc)
  have pB := ok.2.2.2 _ (tw_B_lt (w := T) (v := v) hc)
  have has : 0 ≤ as ∧ as < 360 := by omega
  have hbs : 0 ≤ bs ∧ bs < 360 := by omega
  by_cases hA : T 4 (tw_A T v c) = -1
  rotate_left
  · have eP : tw_P T v c = T 4 (tw_A T v c) := by unfold tw_P; rw [if_neg (by omega), if_pos hA]
    rw [eP, if_neg hA]
    unfold tw_row at oA
    rw [if_neg hA] at oA
    refine yy_fin.steps (n := 1) (s' := (120, [some (.ref w), some (.int (Int32.ofInt (t : Int))), some (.int (Int32.ofInt day)), some (.int (Int32.ofInt v)), some (.int (Int32.ofInt as)), some (.int (Int32.ofInt bs)), some (.ref kA), some (.ref kB)], [.ref kA], h)) rfl ?_
    refine yy_fin.ll rfl oA.1 ?_
    rw [show Int32.ofNat [Int32.ofInt (T 4 (tw_A T v c))].length = Int32.ofInt 1 from rfl]
    refine yy_fin.steps (n := 1) (s' := (122, [some (.ref w), some (.int (Int32.ofInt (t : Int))), some (.int (Int32.ofInt day)), some (.int (Int32.ofInt v)), some (.int (Int32.ofInt as)), some (.int (Int32.ofInt bs)), some (.ref kA), some (.ref kB)], [.int (Int32.ofInt 1), .int (Int32.ofInt 1)], h)) rfl ?_
    refine yy_fin.ic rfl (fun cK => ?_) (fun cK => absurd (by decide) cK)
    refine yy_fin.steps (n := 1) (s' := (134, [some (.ref w), some (.int (Int32.ofInt (t : Int))), some (.int (Int32.ofInt day)), some (.int (Int32.ofInt v)), some (.int (Int32.ofInt as)), some (.int (Int32.ofInt bs)), some (.ref kA), some (.ref kB)], [.ref kA], h)) rfl ?_
    refine yy_fin.ll rfl oA.1 ?_
    rw [show Int32.ofNat [Int32.ofInt (T 4 (tw_A T v c))].length = Int32.ofInt 1 from rfl]
    refine yy_fin.steps (n := 1) (s' := (136, [some (.ref w), some (.int (Int32.ofInt (t : Int))), some (.int (Int32.ofInt day)), some (.int (Int32.ofInt v)), some (.int (Int32.ofInt as)), some (.int (Int32.ofInt bs)), some (.ref kA), some (.ref kB)], [.int (Int32.ofInt 1), .int (Int32.ofInt 1)], h)) rfl ?_
    refine yy_fin.ic rfl (fun cK => absurd cK (by decide)) (fun cK => ?_)
    refine yy_fin.steps (n := 2) (s' := (146, [some (.ref w), some (.int (Int32.ofInt (t : Int))), some (.int (Int32.ofInt day)), some (.int (Int32.ofInt v)), some (.int (Int32.ofInt as)), some (.int (Int32.ofInt bs)), some (.ref kA), some (.ref kB)], [.ref kA], h)) rfl ?_
    exact yy_fin.at (n := 1) rfl ⟨kA, rfl, yx.rf.le (Nat.zero_le _) (Nat.zero_le _), Or.inl wA, oA⟩
  by_cases hP : T 4 (tw_B T v c) = -1
  rotate_left
  · have eP : tw_P T v c = T 4 (tw_B T v c) := by unfold tw_P; rw [if_neg (by omega), if_neg (fun z => z hA)]
    rw [eP, if_neg hP]
    unfold tw_row at oA oB
    rw [if_pos hA] at oA
    rw [if_neg hP] at oB
    refine yy_fin.steps (n := 1) (s' := (120, [some (.ref w), some (.int (Int32.ofInt (t : Int))), some (.int (Int32.ofInt day)), some (.int (Int32.ofInt v)), some (.int (Int32.ofInt as)), some (.int (Int32.ofInt bs)), some (.ref kA), some (.ref kB)], [.ref kA], h)) rfl ?_
    refine yy_fin.ll rfl oA.1 ?_
    rw [show Int32.ofNat [Int32.ofInt (T 2 (tw_A T v c)), Int32.ofInt (T 3 (tw_A T v c))].length = Int32.ofInt 2 from rfl]
    refine yy_fin.steps (n := 1) (s' := (122, [some (.ref w), some (.int (Int32.ofInt (t : Int))), some (.int (Int32.ofInt day)), some (.int (Int32.ofInt v)), some (.int (Int32.ofInt as)), some (.int (Int32.ofInt bs)), some (.ref kA), some (.ref kB)], [.int (Int32.ofInt 1), .int (Int32.ofInt 2)], h)) rfl ?_
    refine yy_fin.ic rfl (fun cK => absurd cK (by decide)) (fun cK => ?_)
    refine yy_fin.steps (n := 1) (s' := (127, [some (.ref w), some (.int (Int32.ofInt (t : Int))), some (.int (Int32.ofInt day)), some (.int (Int32.ofInt v)), some (.int (Int32.ofInt as)), some (.int (Int32.ofInt bs)), some (.ref kA), some (.ref kB)], [.ref kB], h)) rfl ?_
    refine yy_fin.ll rfl oB.1 ?_
    rw [show Int32.ofNat [Int32.ofInt (T 4 (tw_B T v c))].length = Int32.ofInt 1 from rfl]
    refine yy_fin.steps (n := 1) (s' := (129, [some (.ref w), some (.int (Int32.ofInt (t : Int))), some (.int (Int32.ofInt day)), some (.int (Int32.ofInt v)), some (.int (Int32.ofInt as)), some (.int (Int32.ofInt bs)), some (.ref kA), some (.ref kB)], [.int (Int32.ofInt 1), .int (Int32.ofInt 1)], h)) rfl ?_
    refine yy_fin.ic rfl (fun cK => absurd cK (by decide)) (fun cK => ?_)
    refine yy_fin.steps (n := 1) (s' := (134, [some (.ref w), some (.int (Int32.ofInt (t : Int))), some (.int (Int32.ofInt day)), some (.int (Int32.ofInt v)), some (.int (Int32.ofInt as)), some (.int (Int32.ofInt bs)), some (.ref kA), some (.ref kB)], [.ref kA], h)) rfl ?_
    refine yy_fin.ll rfl oA.1 ?_
    rw [show Int32.ofNat [Int32.ofInt (T 2 (tw_A T v c)), Int32.ofInt (T 3 (tw_A T v c))].length = Int32.ofInt 2 from rfl]
    refine yy_fin.steps (n := 1) (s' := (136, [some (.ref w), some (.int (Int32.ofInt (t : Int))), some (.int (Int32.ofInt day)), some (.int (Int32.ofInt v)), some (.int (Int32.ofInt as)), some (.int (Int32.ofInt bs)), some (.ref kA), some (.ref kB)], [.int (Int32.ofInt 1), .int (Int32.ofInt 2)], h)) rfl ?_
    refine yy_fin.ic rfl (fun cK => ?_) (fun cK => absurd (by decide) cK)
    refine yy_fin.steps (n := 1) (s' := (146, [some (.ref w), some (.int (Int32.ofInt (t : Int))), some (.int (Int32.ofInt day)), some (.int (Int32.ofInt v)), some (.int (Int32.ofInt as)), some (.int (Int32.ofInt bs)), some (.ref kA), some (.ref kB)], [.ref kB], h)) rfl ?_
    exact yy_fin.at (n := 1) rfl ⟨kB, rfl, yx.rf.le (Nat.zero_le _) (Nat.zero_le _), Or.inl wB, oB⟩
  have eP : tw_P T v c = -1 := by unfold tw_P; rw [if_neg (by omega), if_neg (fun z => z hA)]; exact hP
  rw [if_pos eP]
  unfold tw_row at oA oB
  rw [if_pos hA] at oA
  rw [if_pos hP] at oB
  have pA2 := pA.2.2.2 hA
  have pB2 := pB.2.2.2 hP
  refine yy_fin.steps (n := 1) (s' := (120, [some (.ref w), some (.int (Int32.ofInt (t : Int))), some (.int (Int32.ofInt day)), some (.int (Int32.ofInt v)), some (.int (Int32.ofInt as)), some (.int (Int32.ofInt bs)), some (.ref kA), some (.ref kB)], [.ref kA], h)) rfl ?_
  refine yy_fin.ll rfl oA.1 ?_
  rw [show Int32.ofNat [Int32.ofInt (T 2 (tw_A T v c)), Int32.ofInt (T 3 (tw_A T v c))].length = Int32.ofInt 2 from rfl]
  refine yy_fin.steps (n := 1) (s' := (122, [some (.ref w), some (.int (Int32.ofInt (t : Int))), some (.int (Int32.ofInt day)), some (.int (Int32.ofInt v)), some (.int (Int32.ofInt as)), some (.int (Int32.ofInt bs)), some (.ref kA), some (.ref kB)], [.int (Int32.ofInt 1), .int (Int32.ofInt 2)], h)) rfl ?_
  refine yy_fin.ic rfl (fun cK => absurd cK (by decide)) (fun cK => ?_)
  refine yy_fin.steps (n := 1) (s' := (127, [some (.ref w), some (.int (Int32.ofInt (t : Int))), some (.int (Int32.ofInt day)), some (.int (Int32.ofInt v)), some (.int (Int32.ofInt as)), some (.int (Int32.ofInt bs)), some (.ref kA), some (.ref kB)], [.ref kB], h)) rfl ?_
  refine yy_fin.ll rfl oB.1 ?_
  rw [show Int32.ofNat [Int32.ofInt (T 2 (tw_B T v c)), Int32.ofInt (T 3 (tw_B T v c))].length = Int32.ofInt 2 from rfl]
  refine yy_fin.steps (n := 1) (s' := (129, [some (.ref w), some (.int (Int32.ofInt (t : Int))), some (.int (Int32.ofInt day)), some (.int (Int32.ofInt v)), some (.int (Int32.ofInt as)), some (.int (Int32.ofInt bs)), some (.ref kA), some (.ref kB)], [.int (Int32.ofInt 1), .int (Int32.ofInt 2)], h)) rfl ?_
  refine yy_fin.ic rfl (fun cK => ?_) (fun cK => absurd (by decide) cK)
  refine yy_fin.steps (n := 1) (s' := (149, [some (.ref w), some (.int (Int32.ofInt (t : Int))), some (.int (Int32.ofInt day)), some (.int (Int32.ofInt v)), some (.int (Int32.ofInt as)), some (.int (Int32.ofInt bs)), some (.ref kA), some (.ref kB)], [.int (Int32.ofInt as)], h)) rfl ?_
  refine yy_fin.if rfl (fun c9 => ?_) (fun c9 => ?_)
  · have c9 := (yi_z_ne (a := as) (by omega)).mp c9
    refine yy_fin.steps (n := 1) (s' := (156, [some (.ref w), some (.int (Int32.ofInt (t : Int))), some (.int (Int32.ofInt day)), some (.int (Int32.ofInt v)), some (.int (Int32.ofInt as)), some (.int (Int32.ofInt bs)), some (.ref kA), some (.ref kB)], [.int (Int32.ofInt 2)], h)) rfl ?_
    refine yy_fin.ni (n := 2) rfl (by decide) (by decide) (by decide) hB hz fun h1 x1 e1 i1 z1 => ?_
    have q1 : yQ h1 (h.1.1 + 1) 2 [] := ⟨i1, fun j v e => nomatch e⟩
    have oA1 := oA.x x1 id
    have oB1 := oB.x x1 id
    have nA := oA.le
    have nB := oB.le
    refine yy_fin.steps (n := 4) (s' := (163, [some (.ref w), some (.int (Int32.ofInt (t : Int))), some (.int (Int32.ofInt day)), some (.int (Int32.ofInt v)), some (.int (Int32.ofInt as)), some (.int (Int32.ofInt bs)), some (.ref kA), some (.ref kB)], [.int (Int32.ofInt 0), .ref kA, .int (Int32.ofInt 0), .ref (h.1.1 + 1), .ref (h.1.1 + 1)], h1)) rfl ?_
    refine yy_fin.lp rfl oA1 rfl (by decide : (Int32.ofInt 0).toNatClampNeg = 0) rfl ?_
    refine yy_fin.steps (n := 2) (s' := (167, [some (.ref w), some (.int (Int32.ofInt (t : Int))), some (.int (Int32.ofInt day)), some (.int (Int32.ofInt v)), some (.int (Int32.ofInt as)), some (.int (Int32.ofInt bs)), some (.ref kA), some (.ref kB)], [.int (Int32.ofInt 0), .ref kB, .int (Int32.ofInt (T 2 (tw_A T v c))), .int (Int32.ofInt 0), .ref (h.1.1 + 1), .ref (h.1.1 + 1)], h1)) rfl ?_
    refine yy_fin.lp rfl oB1 rfl (by decide : (Int32.ofInt 0).toNatClampNeg = 0) rfl ?_
    refine yy_fin.steps (n := 4) (s' := (175, [some (.ref w), some (.int (Int32.ofInt (t : Int))), some (.int (Int32.ofInt day)), some (.int (Int32.ofInt v)), some (.int (Int32.ofInt as)), some (.int (Int32.ofInt bs)), some (.ref kA), some (.ref kB)], [.int ((Int32.ofInt as) + (Int32.ofInt bs)), .int (Int32.ofInt as), .int (Int32.ofInt (T 2 (tw_B T v c))), .int (Int32.ofInt (T 2 (tw_A T v c))), .int (Int32.ofInt 0), .ref (h.1.1 + 1), .ref (h.1.1 + 1)], h1)) rfl ?_
    rw [yi_add as bs]
    refine yy_fin.calls (as := [.int (Int32.ofInt (T 2 (tw_A T v c))), .int (Int32.ofInt (T 2 (tw_B T v c))), .int (Int32.ofInt as), .int (Int32.ofInt (as + bs))]) rfl (by decide) rfl rfl (Nat.le_of_ble_eq_true rfl) (Nat.le_of_ble_eq_true rfl) (yw_step (by omega) (by omega) (by omega) (by omega)) ?_
    rintro v9 h9 ⟨rfl, rfl⟩
    rw [hap 2]
    refine yy_fin.sq rfl q1 (by decide) rfl fun h2 x2 q2 => ?_
    have oA2 := oA1.x x2 (by omega)
    have oB2 := oB1.x x2 (by omega)
    refine yy_fin.steps (n := 4) (s' := (184, [some (.ref w), some (.int (Int32.ofInt (t : Int))), some (.int (Int32.ofInt day)), some (.int (Int32.ofInt v)), some (.int (Int32.ofInt as)), some (.int (Int32.ofInt bs)), some (.ref kA), some (.ref kB)], [.int (Int32.ofInt 1), .ref kA, .int (Int32.ofInt 1), .ref (h.1.1 + 1), .ref (h.1.1 + 1)], h2)) rfl ?_
    refine yy_fin.lp rfl oA2 rfl (by decide : (Int32.ofInt 1).toNatClampNeg = 1) rfl ?_
    refine yy_fin.steps (n := 2) (s' := (188, [some (.ref w), some (.int (Int32.ofInt (t : Int))), some (.int (Int32.ofInt day)), some (.int (Int32.ofInt v)), some (.int (Int32.ofInt as)), some (.int (Int32.ofInt bs)), some (.ref kA), some (.ref kB)], [.int (Int32.ofInt 1), .ref kB, .int (Int32.ofInt (T 3 (tw_A T v c))), .int (Int32.ofInt 1), .ref (h.1.1 + 1), .ref (h.1.1 + 1)], h2)) rfl ?_
    refine yy_fin.lp rfl oB2 rfl (by decide : (Int32.ofInt 1).toNatClampNeg = 1) rfl ?_
    refine yy_fin.steps (n := 4) (s' := (196, [some (.ref w), some (.int (Int32.ofInt (t : Int))), some (.int (Int32.ofInt day)), some (.int (Int32.ofInt v)), some (.int (Int32.ofInt as)), some (.int (Int32.ofInt bs)), some (.ref kA), some (.ref kB)], [.int ((Int32.ofInt as) + (Int32.ofInt bs)), .int (Int32.ofInt as), .int (Int32.ofInt (T 3 (tw_B T v c))), .int (Int32.ofInt (T 3 (tw_A T v c))), .int (Int32.ofInt 1), .ref (h.1.1 + 1), .ref (h.1.1 + 1)], h2)) rfl ?_
    rw [yi_add as bs]
    refine yy_fin.calls (as := [.int (Int32.ofInt (T 3 (tw_A T v c))), .int (Int32.ofInt (T 3 (tw_B T v c))), .int (Int32.ofInt as), .int (Int32.ofInt (as + bs))]) rfl (by decide) rfl rfl (Nat.le_of_ble_eq_true rfl) (Nat.le_of_ble_eq_true rfl) (yw_step (by omega) (by omega) (by omega) (by omega)) ?_
    rintro v9 h9 ⟨rfl, rfl⟩
    rw [hap 3]
    refine yy_fin.sq rfl q2 (by decide) rfl fun h3 x3 q3 => ?_
    exact yy_fin.at (n := 1) rfl ⟨h.1.1 + 1, rfl, ((x1.tr x2 (fun q hq e => by omega)).tr x3 (fun q hq e => by omega)).le (Nat.le_refl _) (Nat.le_refl _), Or.inr (Nat.lt_succ_self _), q3⟩
  · have c9 := mt (yi_z_ne (a := as) (by omega)).mpr c9
    have c1 : as = 0 := by omega
    refine yy_fin.steps (n := 1) (s' := (154, [some (.ref w), some (.int (Int32.ofInt (t : Int))), some (.int (Int32.ofInt day)), some (.int (Int32.ofInt v)), some (.int (Int32.ofInt as)), some (.int (Int32.ofInt bs)), some (.ref kA), some (.ref kB)], [.ref kA], h)) rfl ?_
    exact yy_fin.at (n := 1) rfl ⟨kA, rfl, yx.rf.le (Nat.zero_le _) (Nat.zero_le _), Or.inl wA, by rw [← hap 2, ← hap 3, c1, Int.mul_zero, Int.mul_zero, Int.zero_ediv, Int.add_zero, Int.add_zero]; exact oA⟩
theorem yw_t6 (W : yTb own h w t T c) (ok : tw_ok T c) {v day : Int} (hv : 0 ≤ v ∧ v ≤ 359) (hB : h.1.1 + 1 < yy_B) (hz : zz_Zr h) : yy_fin X 281 (6, [some (.ref w), some (.int (Int32.ofInt (t : Int))), some (.int (Int32.ofInt day)), some (.int (Int32.ofInt v)), none, none, none, none], [], h) (fun r h' => ∃ k, r = some (.ref k) ∧ yx yF 1 2 h h' ∧ (own k = 0 ∨ h.1.1 < k) ∧ yP h' k (if tw_P T v c = -1 then [Int32.ofInt (tw_D T v c 2), Int32.ofInt (tw_D T v c 3)] else [Int32.ofInt (tw_P T v c)])) := by
  have hc12 := ok.1
  obtain ⟨o, p, b, tx, q, rs, rq, oW, oP, eP, lP, tP, oQ, lQ, aQ⟩ := id W
  refine yy_fin.steps (n := 2) (s' := (8, [some (.ref w), some (.int (Int32.ofInt (t : Int))), some (.int (Int32.ofInt day)), some (.int (Int32.ofInt v)), none, none, none, none], [.int (Int32.ofInt (t : Int)), .ref w], h)) rfl ?_
  refine yy_fin.cv (as := [.int (Int32.ofInt (t : Int))]) rfl rfl rfl oW (Nat.le_of_ble_eq_true rfl) (Nat.le_of_ble_eq_true rfl) (yw_many W ok) ?_
  rintro v h9 ⟨rfl, e9⟩
  obtain rfl := e9.symm
  refine yy_fin.if rfl (fun c1 => ?_) (fun c1 => ?_)
  · have c1 := (yi_z_ne (a := (c : Int)) (by omega)).mp c1
    have hc : 0 < c := by omega
    refine yy_fin.steps (n := 2) (s' := (25, [some (.ref w), some (.int (Int32.ofInt (t : Int))), some (.int (Int32.ofInt day)), some (.int (Int32.ofInt v)), some (.int (Int32.ofInt 0)), none, none, none], [], h)) rfl ?_
    obtain ⟨as, eas⟩ : ∃ as, as = (v - T 1 (tw_A T v c)) % 360 := ⟨_, rfl⟩
    obtain ⟨bs, ebs⟩ : ∃ bs, bs = (T 1 (tw_B T v c) - v) % 360 := ⟨_, rfl⟩
    have bA := ok.2.1 _ (tw_A_lt (w := T) (v := v) hc)
    have bB := ok.2.1 _ (tw_B_lt (w := T) (v := v) hc)
    refine yw_aL W ok hv hc as eas bs ebs ?_ as.toNat 0 (by omega) (by omega)
    refine yy_fin.steps (n := 2) (s' := (56, [some (.ref w), some (.int (Int32.ofInt (t : Int))), some (.int (Int32.ofInt day)), some (.int (Int32.ofInt v)), some (.int (Int32.ofInt as)), some (.int (Int32.ofInt 0)), none, none], [], h)) rfl ?_
    refine yw_bL W ok hv hc as eas bs ebs ?_ bs.toNat 0 (by omega) (by omega)
    refine yy_fin.steps (n := 1) (s' := (81, [some (.ref w), some (.int (Int32.ofInt (t : Int))), some (.int (Int32.ofInt day)), some (.int (Int32.ofInt v)), some (.int (Int32.ofInt as)), some (.int (Int32.ofInt bs)), none, none], [.ref w], h)) rfl ?_
    refine yy_fin.fr rfl oW rfl ?_
    refine yy_fin.steps (n := 1) (s' := (85, [some (.ref w), some (.int (Int32.ofInt (t : Int))), some (.int (Int32.ofInt day)), some (.int (Int32.ofInt v)), some (.int (Int32.ofInt as)), some (.int (Int32.ofInt bs)), none, none], [.int (Int32.ofInt (t : Int)), .ref p], h)) rfl ?_
    refine yy_fin.ar rfl oP (by decide) (yi_inb (a := (t : Int)) (by omega) (by omega) (by omega)) ((yi_cl (a := (t : Int)) (by omega)).trans (Int.toNat_natCast t)) eP ?_
    refine yy_fin.steps (n := 6) (s' := (97, [some (.ref w), some (.int (Int32.ofInt (t : Int))), some (.int (Int32.ofInt day)), some (.int (Int32.ofInt v)), some (.int (Int32.ofInt as)), some (.int (Int32.ofInt bs)), none, none], [.int (Int32.ofInt 360), .int (((Int32.ofInt v) - (Int32.ofInt as)) + (Int32.ofInt 360)), .ref q], h)) rfl ?_
    rw [yi_sub v as]
    rw [yi_add (v - as) 360]
    refine yy_fin.rm rfl (by decide) ?_
    rw [yi_rem (a := v - as + 360) (b := 360) (by omega) (by omega)]
    obtain ⟨kA, ekA, wkA, okA⟩ := (aQ ((v - as + 360) % 360) (by omega) (by omega)).1 _ (tw_A_lt (w := T) (v := v) hc) (by omega)
    refine yy_fin.ar rfl oQ (by decide) (yi_inb (a := (v - as + 360) % 360) (by omega) (by omega) (by omega)) (yi_cl (a := (v - as + 360) % 360) (by omega)) ekA ?_
    refine yy_fin.steps (n := 2) (s' := (102, [some (.ref w), some (.int (Int32.ofInt (t : Int))), some (.int (Int32.ofInt day)), some (.int (Int32.ofInt v)), some (.int (Int32.ofInt as)), some (.int (Int32.ofInt bs)), some (.ref kA), none], [.ref w], h)) rfl ?_
    refine yy_fin.fr rfl oW rfl ?_
    refine yy_fin.steps (n := 1) (s' := (106, [some (.ref w), some (.int (Int32.ofInt (t : Int))), some (.int (Int32.ofInt day)), some (.int (Int32.ofInt v)), some (.int (Int32.ofInt as)), some (.int (Int32.ofInt bs)), some (.ref kA), none], [.int (Int32.ofInt (t : Int)), .ref p], h)) rfl ?_
    refine yy_fin.ar rfl oP (by decide) (yi_inb (a := (t : Int)) (by omega) (by omega) (by omega)) ((yi_cl (a := (t : Int)) (by omega)).trans (Int.toNat_natCast t)) eP ?_
    refine yy_fin.steps (n := 4) (s' := (114, [some (.ref w), some (.int (Int32.ofInt (t : Int))), some (.int (Int32.ofInt day)), some (.int (Int32.ofInt v)), some (.int (Int32.ofInt as)), some (.int (Int32.ofInt bs)), some (.ref kA), none], [.int (Int32.ofInt 360), .int ((Int32.ofInt v) + (Int32.ofInt bs)), .ref q], h)) rfl ?_
    rw [yi_add v bs]
    refine yy_fin.rm rfl (by decide) ?_
    rw [yi_rem (a := v + bs) (b := 360) (by omega) (by omega)]
    obtain ⟨kB, ekB, wkB, okB⟩ := (aQ ((v + bs) % 360) (by omega) (by omega)).1 _ (tw_B_lt (w := T) (v := v) hc) (by omega)
    refine yy_fin.ar rfl oQ (by decide) (yi_inb (a := (v + bs) % 360) (by omega) (by omega) (by omega)) (yi_cl (a := (v + bs) % 360) (by omega)) ekB ?_
    refine yy_fin.steps (n := 1) (s' := (118, [some (.ref w), some (.int (Int32.ofInt (t : Int))), some (.int (Int32.ofInt day)), some (.int (Int32.ofInt v)), some (.int (Int32.ofInt as)), some (.int (Int32.ofInt bs)), some (.ref kA), some (.ref kB)], [], h)) rfl ?_
    exact yw_tC ok hv hc as eas bs ebs okA wkA okB wkB hB hz
  · have c1 := mt (yi_z_ne (a := (c : Int)) (by omega)).mpr c1
    have hc0 : c = 0 := by omega
    subst hc0
    have eP : tw_P T v 0 = 0 := by unfold tw_P; rw [if_pos rfl]
    rw [eP, if_neg (by decide)]
    refine yy_fin.steps (n := 1) (s' := (15, [some (.ref w), some (.int (Int32.ofInt (t : Int))), some (.int (Int32.ofInt day)), some (.int (Int32.ofInt v)), none, none, none, none], [.int (Int32.ofInt 1)], h)) rfl ?_
    refine yy_fin.ni (n := 1) rfl (by decide) (by decide) (by decide) hB hz fun h1 x1 e1 i1 z1 => ?_
    have q1 : yQ h1 (h.1.1 + 1) 1 [] := ⟨i1, fun j v e => nomatch e⟩
    refine yy_fin.steps (n := 3) (s' := (20, [some (.ref w), some (.int (Int32.ofInt (t : Int))), some (.int (Int32.ofInt day)), some (.int (Int32.ofInt v)), none, none, none, none], [.int (Int32.ofInt 0), .int (Int32.ofInt 0), .ref (h.1.1 + 1), .ref (h.1.1 + 1)], h1)) rfl ?_
    refine yy_fin.sq rfl q1 (by decide) rfl fun h2 x2 q2 => ?_
    exact yy_fin.at (n := 1) rfl ⟨h.1.1 + 1, rfl, (x1.tr x2 (fun q hq e => by omega)).le (Nat.le_refl _) (Nat.le_succ _), Or.inr (Nat.lt_succ_self _), q2⟩
theorem yw_table (W : yTb own h w t T c) (ok : tw_ok T c) {day : Int} (hd : 0 ≤ day ∧ day ≤ 100000) (hB : h.1.1 + 1 < yy_B) (hz : zz_Zr h) : yy_fin X 281 (0, zz_in [.ref w, .int (Int32.ofInt (t : Int)), .int (Int32.ofInt day)] (zz_nl 281), [], h) (fun r h' => ∃ k, r = some (.ref k) ∧ yx yF 1 2 h h' ∧ (own k = 0 ∨ h.1.1 < k) ∧ yP h' k (if tw_P T (day % 360) c = -1 then [Int32.ofInt (tw_D T (day % 360) c 2), Int32.ofInt (tw_D T (day % 360) c 3)] else [Int32.ofInt (tw_P T (day % 360) c)])) := by
  refine yy_fin.steps (n := 2) (s' := (4, [some (.ref w), some (.int (Int32.ofInt (t : Int))), some (.int (Int32.ofInt day)), none, none, none, none, none], [.int (Int32.ofInt 360), .int (Int32.ofInt day)], h)) rfl ?_
  refine yy_fin.rm rfl (by decide) ?_
  rw [yi_rem (a := day) (b := 360) (by omega) (by omega)]
  refine yy_fin.steps (n := 1) (s' := (6, [some (.ref w), some (.int (Int32.ofInt (t : Int))), some (.int (Int32.ofInt day)), some (.int (Int32.ofInt ((day) % 360))), none, none, none, none], [], h)) rfl ?_
  exact yw_t6 W ok (by omega) hB hz
theorem yw_half (W : yTb own h w t T c) (ok : tw_ok T c) {day half : Int} (hd : -1000000 ≤ day ∧ day ≤ 1000000) (hf : half = 0 ∨ half = 1) (hB : h.1.1 + 3 < yy_B) (hz : zz_Zr h) : yy_fin X 280 (0, zz_in [.ref w, .int (Int32.ofInt (t : Int)), .int (Int32.ofInt day), .int (Int32.ofInt half)] (zz_nl 280), [], h) (fun r h' => yx yF 3 6 h h' ∧ match tw_H T c day half with | none => r = some .null | some (b, l) => ∃ k, r = some (.ref k) ∧ (own k = 0 ∨ h.1.1 < k) ∧ yP h' k [Int32.ofInt b, Int32.ofInt (b + l)]) := by
  unfold tw_H
  refine yy_fin.steps (n := 1) (s' := (1, [some (.ref w), some (.int (Int32.ofInt (t : Int))), some (.int (Int32.ofInt day)), some (.int (Int32.ofInt half)), none, none], [.int (Int32.ofInt day)], h)) rfl ?_
  refine yy_fin.if rfl (fun c1 => ?_) (fun c1 => ?_)
  · have c1 := (yi_z_lt (a := day) (by omega)).mp c1
    rw [if_pos (c := ¬ (0 ≤ day ∧ day ≤ 35999)) (by omega)]
    refine yy_fin.steps (n := 1) (s' := (11, [some (.ref w), some (.int (Int32.ofInt (t : Int))), some (.int (Int32.ofInt day)), some (.int (Int32.ofInt half)), none, none], [.null], h)) rfl ?_
    exact yy_fin.at (n := 1) rfl ⟨yx.rf.le (Nat.zero_le _) (Nat.zero_le _), rfl⟩
  · have c1 := mt (yi_z_lt (a := day) (by omega)).mpr c1
    refine yy_fin.steps (n := 2) (s' := (7, [some (.ref w), some (.int (Int32.ofInt (t : Int))), some (.int (Int32.ofInt day)), some (.int (Int32.ofInt half)), none, none], [.int (Int32.ofInt 35999), .int (Int32.ofInt day)], h)) rfl ?_
    refine yy_fin.ic rfl (fun c2 => ?_) (fun c2 => ?_)
    · have c2 := (yi_c_le (a := day) (b := 35999) (by omega) (by omega)).mp c2
      rw [if_neg (c := ¬ (0 ≤ day ∧ day ≤ 35999)) (by omega)]
      refine yy_fin.steps (n := 3) (s' := (15, [some (.ref w), some (.int (Int32.ofInt (t : Int))), some (.int (Int32.ofInt day)), some (.int (Int32.ofInt half)), none, none], [.int (Int32.ofInt day), .int (Int32.ofInt (t : Int)), .ref w], h)) rfl ?_
      obtain ⟨_, _, _, _, _, _, _, oW, -⟩ := id W
      refine yy_fin.cv (as := [.int (Int32.ofInt (t : Int)), .int (Int32.ofInt day)]) rfl rfl rfl oW (Nat.le_of_ble_eq_true rfl) (Nat.le_of_ble_eq_true rfl) (yw_table W ok (by omega) (by omega) hz) ?_
      rintro v h1 ⟨k1, rfl, x1, w1, o1⟩
      refine yy_fin.steps (n := 2) (s' := (22, [some (.ref w), some (.int (Int32.ofInt (t : Int))), some (.int (Int32.ofInt day)), some (.int (Int32.ofInt half)), some (.ref k1), none], [.ref k1], h1)) rfl ?_
      have W1 := W.f x1
      have hB1 : h1.1.1 + 2 < yy_B := by have := x1.1; omega
      have hz1 := x1.zr hz
      by_cases hP : tw_P T (day % 360) c = -1
      rotate_left
      · rw [if_neg hP] at o1
        have en : ∀ q : Option (Int × Int), (if half = 1 ∧ day = 35999 then none else if tw_P T (day % 360) c ≠ -1 then none else q) = none := fun q => by rw [if_pos (c := tw_P T (day % 360) c ≠ -1) hP]; exact ite_self none
        rw [en]
        refine yy_fin.ll rfl o1.1 ?_
        rw [show Int32.ofNat [Int32.ofInt (tw_P T (day % 360) c)].length = Int32.ofInt 1 from rfl]
        refine yy_fin.steps (n := 1) (s' := (24, [some (.ref w), some (.int (Int32.ofInt (t : Int))), some (.int (Int32.ofInt day)), some (.int (Int32.ofInt half)), some (.ref k1), none], [.int (Int32.ofInt 1), .int (Int32.ofInt 1)], h1)) rfl ?_
        refine yy_fin.ic rfl (fun cK => absurd cK (by decide)) (fun cK => ?_)
        refine yy_fin.steps (n := 1) (s' := (28, [some (.ref w), some (.int (Int32.ofInt (t : Int))), some (.int (Int32.ofInt day)), some (.int (Int32.ofInt half)), some (.ref k1), none], [.null], h1)) rfl ?_
        exact yy_fin.at (n := 1) rfl ⟨x1.le (by decide) (by decide), rfl⟩
      rw [if_pos hP] at o1
      have hc := tw_P0 hP
      have bd := tw_D_b ok hc (v := day % 360) (by omega) hP
      refine yy_fin.ll rfl o1.1 ?_
      rw [show Int32.ofNat [Int32.ofInt (tw_D T (day % 360) c 2), Int32.ofInt (tw_D T (day % 360) c 3)].length = Int32.ofInt 2 from rfl]
      refine yy_fin.steps (n := 1) (s' := (24, [some (.ref w), some (.int (Int32.ofInt (t : Int))), some (.int (Int32.ofInt day)), some (.int (Int32.ofInt half)), some (.ref k1), none], [.int (Int32.ofInt 1), .int (Int32.ofInt 2)], h1)) rfl ?_
      refine yy_fin.ic rfl (fun cK => ?_) (fun cK => absurd (by decide) cK)
      refine yy_fin.steps (n := 1) (s' := (30, [some (.ref w), some (.int (Int32.ofInt (t : Int))), some (.int (Int32.ofInt day)), some (.int (Int32.ofInt half)), some (.ref k1), none], [.int (Int32.ofInt half)], h1)) rfl ?_
      refine yy_fin.if rfl (fun c3 => ?_) (fun c3 => ?_)
      · have c3 := (yi_z_ne (a := half) (by omega)).mp c3
        have e1 : half = 1 := by omega
        refine yy_fin.steps (n := 2) (s' := (39, [some (.ref w), some (.int (Int32.ofInt (t : Int))), some (.int (Int32.ofInt day)), some (.int (Int32.ofInt half)), some (.ref k1), none], [.int (Int32.ofInt 35999), .int (Int32.ofInt day)], h1)) rfl ?_
        refine yy_fin.ic rfl (fun c4 => ?_) (fun c4 => ?_)
        · have c4 := (yi_c_ne (a := day) (b := 35999) (by omega) (by omega)).mp c4
          rw [if_neg (c := half = 1 ∧ day = 35999) (by omega), if_neg (c := tw_P T (day % 360) c ≠ -1) (fun z => z hP), if_pos (c := half = 1) e1]
          refine yy_fin.steps (n := 5) (s' := (49, [some (.ref w), some (.int (Int32.ofInt (t : Int))), some (.int (Int32.ofInt day)), some (.int (Int32.ofInt half)), some (.ref k1), none], [.int ((Int32.ofInt day) + (Int32.ofInt 1)), .int (Int32.ofInt (t : Int)), .ref w], h1)) rfl ?_
          rw [yi_add day 1]
          have oW1 := oW.x x1 id
          refine yy_fin.cv (as := [.int (Int32.ofInt (t : Int)), .int (Int32.ofInt (day + 1))]) rfl rfl rfl oW1 (Nat.le_of_ble_eq_true rfl) (Nat.le_of_ble_eq_true rfl) (yw_table W1 ok (day := day + 1) (by omega) (by omega) hz1) ?_
          rintro v h2 ⟨k2, rfl, x2, w2, o2⟩
          have o1b := o1.x x2 id
          have x12 := (x1.tr x2 (fun _ _ e => e)).le (a2 := 2) (d2 := 4) (Nat.le_refl _) (Nat.le_refl _)
          have hB2 : h2.1.1 + 1 < yy_B := by have := x12.1; omega
          refine yy_fin.steps (n := 2) (s' := (56, [some (.ref w), some (.int (Int32.ofInt (t : Int))), some (.int (Int32.ofInt day)), some (.int (Int32.ofInt half)), some (.ref k1), some (.ref k2)], [.ref k2], h2)) rfl ?_
          by_cases hQ : tw_P T ((day + 1) % 360) c = -1
          rotate_left
          · rw [if_neg hQ] at o2
            rw [if_pos (c := tw_P T ((day + 1) % 360) c ≠ -1) hQ]
            refine yy_fin.ll rfl o2.1 ?_
            rw [show Int32.ofNat [Int32.ofInt (tw_P T ((day + 1) % 360) c)].length = Int32.ofInt 1 from rfl]
            refine yy_fin.steps (n := 1) (s' := (58, [some (.ref w), some (.int (Int32.ofInt (t : Int))), some (.int (Int32.ofInt day)), some (.int (Int32.ofInt half)), some (.ref k1), some (.ref k2)], [.int (Int32.ofInt 1), .int (Int32.ofInt 1)], h2)) rfl ?_
            refine yy_fin.ic rfl (fun cK => absurd cK (by decide)) (fun cK => ?_)
            refine yy_fin.steps (n := 2) (s' := (85, [some (.ref w), some (.int (Int32.ofInt (t : Int))), some (.int (Int32.ofInt day)), some (.int (Int32.ofInt half)), some (.ref k1), some (.ref k2)], [.null], h2)) rfl ?_
            exact yy_fin.at (n := 1) rfl ⟨x12.le (by decide) (by decide), rfl⟩
          rw [if_pos hQ] at o2
          rw [if_neg (c := tw_P T ((day + 1) % 360) c ≠ -1) (fun z => z hQ)]
          have bd2 := tw_D_b ok hc (v := (day + 1) % 360) (by omega) hQ
          refine yy_fin.ll rfl o2.1 ?_
          rw [show Int32.ofNat [Int32.ofInt (tw_D T ((day + 1) % 360) c 2), Int32.ofInt (tw_D T ((day + 1) % 360) c 3)].length = Int32.ofInt 2 from rfl]
          refine yy_fin.steps (n := 1) (s' := (58, [some (.ref w), some (.int (Int32.ofInt (t : Int))), some (.int (Int32.ofInt day)), some (.int (Int32.ofInt half)), some (.ref k1), some (.ref k2)], [.int (Int32.ofInt 1), .int (Int32.ofInt 2)], h2)) rfl ?_
          refine yy_fin.ic rfl (fun cK => ?_) (fun cK => absurd (by decide) cK)
          refine yy_fin.steps (n := 1) (s' := (66, [some (.ref w), some (.int (Int32.ofInt (t : Int))), some (.int (Int32.ofInt day)), some (.int (Int32.ofInt half)), some (.ref k1), some (.ref k2)], [.int (Int32.ofInt 2)], h2)) rfl ?_
          refine yy_fin.ni (n := 2) rfl (by decide) (by decide) (by decide) hB2 (x12.zr hz) fun h3 x3 e3 i3 z3 => ?_
          have q3 : yQ h3 (h2.1.1 + 1) 2 [] := ⟨i3, fun j v e => nomatch e⟩
          have oA3 := o1b.x x3 id
          have oB3 := o2.x x3 id
          have nA := o1b.le
          have nB := o2.le
          have hle := x12.1
          refine yy_fin.steps (n := 4) (s' := (73, [some (.ref w), some (.int (Int32.ofInt (t : Int))), some (.int (Int32.ofInt day)), some (.int (Int32.ofInt half)), some (.ref k1), some (.ref k2)], [.int (Int32.ofInt 1), .ref k1, .int (Int32.ofInt 0), .ref (h2.1.1 + 1), .ref (h2.1.1 + 1)], h3)) rfl ?_
          refine yy_fin.lp rfl oA3 rfl (by decide : (Int32.ofInt 1).toNatClampNeg = 1) rfl ?_
          refine yy_fin.sq rfl q3 (by decide) rfl fun h4 x4 q4 => ?_
          have oB4 := oB3.x x4 (by omega)
          refine yy_fin.steps (n := 5) (s' := (82, [some (.ref w), some (.int (Int32.ofInt (t : Int))), some (.int (Int32.ofInt day)), some (.int (Int32.ofInt half)), some (.ref k1), some (.ref k2)], [.int (Int32.ofInt 0), .ref k2, .int (Int32.ofInt 86400), .int (Int32.ofInt 1), .ref (h2.1.1 + 1), .ref (h2.1.1 + 1)], h4)) rfl ?_
          refine yy_fin.lp rfl oB4 rfl (by decide : (Int32.ofInt 0).toNatClampNeg = 0) rfl ?_
          refine yy_fin.steps (n := 1) (s' := (84, [some (.ref w), some (.int (Int32.ofInt (t : Int))), some (.int (Int32.ofInt day)), some (.int (Int32.ofInt half)), some (.ref k1), some (.ref k2)], [.int ((Int32.ofInt 86400) + (Int32.ofInt (tw_D T ((day + 1) % 360) c 2))), .int (Int32.ofInt 1), .ref (h2.1.1 + 1), .ref (h2.1.1 + 1)], h4)) rfl ?_
          rw [yi_add 86400 (tw_D T ((day + 1) % 360) c 2)]
          refine yy_fin.sq rfl q4 (by decide) rfl fun h5 x5 q5 => ?_
          exact yy_fin.at (n := 1) rfl ⟨(((x12.tr x3 (fun _ _ e => e)).tr x4 (fun q hq e => by omega)).tr x5 (fun q hq e => by omega)).le (Nat.le_refl _) (Nat.le_refl _), h2.1.1 + 1, rfl, Or.inr (by omega), by (try dsimp only); rw [show tw_D T (day % 360) c 3 + (86400 + tw_D T ((day + 1) % 360) c 2 - tw_D T (day % 360) c 3) = 86400 + tw_D T ((day + 1) % 360) c 2 by omega]; exact q5⟩
        · have c4 := mt (yi_c_ne (a := day) (b := 35999) (by omega) (by omega)).mpr c4
          rw [if_pos (c := half = 1 ∧ day = 35999) (by omega)]
          refine yy_fin.steps (n := 1) (s' := (43, [some (.ref w), some (.int (Int32.ofInt (t : Int))), some (.int (Int32.ofInt day)), some (.int (Int32.ofInt half)), some (.ref k1), none], [.null], h1)) rfl ?_
          exact yy_fin.at (n := 1) rfl ⟨x1.le (by decide) (by decide), rfl⟩
      · have c3 := mt (yi_z_ne (a := half) (by omega)).mpr c3
        have e0 : half = 0 := by omega
        rw [if_neg (c := half = 1 ∧ day = 35999) (by omega), if_neg (c := tw_P T (day % 360) c ≠ -1) (fun z => z hP), if_neg (c := half = 1) (by omega)]
        refine yy_fin.steps (n := 1) (s' := (35, [some (.ref w), some (.int (Int32.ofInt (t : Int))), some (.int (Int32.ofInt day)), some (.int (Int32.ofInt half)), some (.ref k1), none], [.ref k1], h1)) rfl ?_
        exact yy_fin.at (n := 1) rfl ⟨x1.le (by decide) (by decide), k1, rfl, w1, by (try dsimp only); rw [show tw_D T (day % 360) c 2 + (tw_D T (day % 360) c 3 - tw_D T (day % 360) c 2) = tw_D T (day % 360) c 3 by omega]; exact o1⟩
    · have c2 := mt (yi_c_le (a := day) (b := 35999) (by omega) (by omega)).mpr c2
      rw [if_pos (c := ¬ (0 ≤ day ∧ day ≤ 35999)) (by omega)]
      refine yy_fin.steps (n := 1) (s' := (11, [some (.ref w), some (.int (Int32.ofInt (t : Int))), some (.int (Int32.ofInt day)), some (.int (Int32.ofInt half)), none, none], [.null], h)) rfl ?_
      exact yy_fin.at (n := 1) rfl ⟨yx.rf.le (Nat.zero_le _) (Nat.zero_le _), rfl⟩
end YW1
