/-! THE LAW ASKS OF MANY DAYS (298): spare (printed by wip/p54/w19.py) -/
/-- a table without one of its points -/
def tw_x (T : Nat → Nat → Int) (i o j : Nat) : Int := if j < i then T o j else T o (j + 1)
theorem tw_x_lo {T : Nat → Nat → Int} {i o j : Nat} (h : j < i) : tw_x T i o j = T o j := if_pos h
theorem tw_x_hi {T : Nat → Nat → Int} {i o j : Nat} (h : i ≤ j) : tw_x T i o j = T o (j + 1) := if_neg (by omega)
theorem ll_A_lt {c i : Nat} (hi : i < c) : ll_A c i < c := by
  unfold ll_A
  split <;> omega
theorem ll_B_lt {c i : Nat} (hi : i < c) : ll_B c i < c := by
  unfold ll_B
  split <;> omega
section YTX
variable {T : Nat → Nat → Int} {c i o : Nat}
theorem tw_x_ok (ok : tw_ok T c) (hi : i < c) : tw_ok (tw_x T i) (c - 1) := by
  obtain ⟨k1, k2, k3, k4⟩ := ok
  refine ⟨by omega, fun j hj => ?_, fun j hj => ?_, fun j hj => ?_⟩
  · by_cases b : j < i
    · rw [tw_x_lo b]
      exact k2 j (by omega)
    · rw [tw_x_hi (by omega)]
      exact k2 (j + 1) (by omega)
  · by_cases b : j < i
    · rw [tw_x_lo b]
      have h1 := k3 j (by omega)
      by_cases b2 : j + 1 < i
      · rw [tw_x_lo b2]
        exact h1
      · rw [tw_x_hi (by omega)]
        have h2 := k3 (j + 1) (by omega)
        omega
    · rw [tw_x_hi (by omega), tw_x_hi (by omega)]
      exact k3 (j + 1) (by omega)
  · by_cases b : j < i
    · rw [tw_x_lo b, tw_x_lo b, tw_x_lo b]
      exact k4 j (by omega)
    · rw [tw_x_hi (by omega), tw_x_hi (by omega), tw_x_hi (by omega)]
      exact k4 (j + 1) (by omega)
theorem tw_x_k (ok : tw_ok T c) (hi : i < c) : tw_k (tw_x T i) (T 1 i) (c - 1) = i := by
  have h1 := tw_k_le (tw_x T i) (T 1 i) (c - 1)
  rcases Nat.lt_trichotomy (tw_k (tw_x T i) (T 1 i) (c - 1)) i with z | z | z
  · have h2 := tw_k_hi (tw_x T i) (T 1 i) (c - 1) (by omega)
    rw [tw_x_lo z] at h2
    have := tw_lt ok z hi
    omega
  · exact z
  · have h2 := tw_k_lo (tw_x T i) (T 1 i) (c - 1) i z
    rw [tw_x_hi (Nat.le_refl i)] at h2
    have := tw_lt ok (show i < i + 1 by omega) (show i + 1 < c by omega)
    omega
theorem tw_x_A (ok : tw_ok T c) (hi : i < c) (hc2 : 2 ≤ c) : tw_x T i o (tw_A (tw_x T i) (T 1 i) (c - 1)) = T o (ll_A c i) := by
  unfold tw_A ll_A
  rw [tw_x_k ok hi]
  by_cases z : i = 0
  · rw [if_pos z, if_pos z, tw_x_hi (by omega), show c - 1 - 1 + 1 = c - 1 by omega]
  · rw [if_neg z, if_neg z, tw_x_lo (by omega)]
theorem tw_x_B (ok : tw_ok T c) (hi : i < c) (hc2 : 2 ≤ c) : tw_x T i o (tw_B (tw_x T i) (T 1 i) (c - 1)) = T o (ll_B c i) := by
  have e := tw_x_A (o := 1) ok hi hc2
  have ne : T 1 (ll_A c i) ≠ T 1 i := by
    unfold ll_A
    split
    · have := tw_lt ok (show i < c - 1 by omega) (show c - 1 < c by omega)
      omega
    · have := tw_lt ok (show i - 1 < i by omega) hi
      omega
  unfold tw_B
  rw [e, if_neg ne]
  unfold tw_A ll_B
  rw [tw_x_k ok hi]
  by_cases z : i = 0
  · rw [if_pos z, if_neg (by omega), if_pos (by omega), tw_x_hi (by omega), z]
  · rw [if_neg z]
    by_cases z2 : i + 1 < c
    · rw [if_pos (show i - 1 + 1 < c - 1 by omega), if_pos z2, tw_x_hi (by omega), show i - 1 + 1 + 1 = i + 1 by omega]
    · rw [if_neg (show ¬ i - 1 + 1 < c - 1 by omega), if_neg z2, tw_x_lo (by omega)]
theorem tw_x_P (ok : tw_ok T c) (hi : i < c) (hc2 : 2 ≤ c) : tw_P (tw_x T i) (T 1 i) (c - 1) = ll_P T (ll_A c i) (ll_B c i) := by
  unfold tw_P ll_P
  rw [if_neg (show ¬ c - 1 = 0 by omega), tw_x_A ok hi hc2, tw_x_B ok hi hc2]
theorem tw_x_D (ok : tw_ok T c) (hi : i < c) (hc2 : 2 ≤ c) : tw_D (tw_x T i) (T 1 i) (c - 1) o = ll_D T (ll_A c i) (ll_B c i) (T 1 i) o := by
  rw [← ll_Deq ok hi hc2]
  unfold tw_D
  rw [tw_x_A ok hi hc2, tw_x_B ok hi hc2, tw_x_A ok hi hc2, tw_x_B ok hi hc2]
theorem tw_x_row {j : Nat} : tw_row (tw_x T i) j = tw_row T (if j < i then j else j + 1) := by
  unfold tw_row
  by_cases b : j < i
  · rw [if_pos b, tw_x_lo b, tw_x_lo b, tw_x_lo b]
  · rw [if_neg b, tw_x_hi (by omega), tw_x_hi (by omega), tw_x_hi (by omega)]
end YTX
section YHX
variable {X : yy_X} {m m2 pc : Nat} {lv : zz_V} {st as rest r : List Value} {h h' h1 h2 h3 : zz_H} {φ ψ : Option Value → zz_H → Prop} {x y u w : Nat} {vv : Value} {sw : List (Int × Nat)} {k c n t : Nat} {fs : List (Option (Option Nat))} {rs rq : List (Option Nat)} {l : List Int32}
theorem yy_kd5 (o : yP h k l) : yy_kd h 5 k = true := by
  show (zz_arr h k 0).isSome = true
  rw [o.1.2.2]
  rfl
theorem yy_fin.aw2 {i : Int32} {j q : Nat} (hT : zz_T m pc = some (.aastore, (x, y, u, w), vv, sw)) (o : yR h k t rs) (ht : 5 ≤ t ∧ t ≤ 8) (hi : zz_inb i rs.length = true) (hj : i.toNatClampNeg = j) (hq0 : q ≠ 0) (hq : yy_kd h t q = true) (kk : ∀ h', yx (fun a => a = k) 0 0 h h' → h'.2.2 = h.2.2 → yR h' k t (rs.set j (some q)) → yy_fin X m (pc + 1, lv, r, h') φ) : yy_fin X m (pc, lv, .ref q :: .int i :: .ref k :: r, h) φ := by
  obtain ⟨a, rfl⟩ := Nat.exists_eq_succ_of_ne_zero o.1
  obtain ⟨b, rfl⟩ := Nat.exists_eq_succ_of_ne_zero hq0
  subst hj
  exact yy_fin.aas hT o.2.2 ht hi hq (kk _ (yx_s o.le) rfl (yR_s o))
theorem yy_fin.asN2 {i : Int32} {j : Nat} (hT : zz_T m pc = some (.aastore, (x, y, u, w), vv, sw)) (o : yR h k 5 rs) (hi : zz_inb i rs.length = true) (hj : i.toNatClampNeg = j) (kk : ∀ h', yx (fun a => a = k) 0 0 h h' → h'.2.2 = h.2.2 → yR h' k 5 (rs.set j none) → yy_fin X m (pc + 1, lv, r, h') φ) : yy_fin X m (pc, lv, .null :: .int i :: .ref k :: r, h) φ := by
  obtain ⟨a, rfl⟩ := Nat.exists_eq_succ_of_ne_zero o.1
  subst hj
  exact yy_fin.aasN hT o.2.2 rfl hi (kk _ (yx_s o.le) rfl (yR_s o))
/-- taken out, put back: nothing old is otherwise -/
theorem yx_back {q a d : Nat} (x1 : yx (fun z => z = q) 0 0 h h1) (n1 : h1.2.2 = h.2.2) (x2 : yx yF a d h1 h2) (x3 : yx (fun z => z = q) 0 0 h2 h3) (n3 : h3.2.2 = h2.2.2) (o : yR h q 5 rq) (o3 : yR h3 q 5 rq) : yx yF a d h h3 := by
  have hq := o.le
  have h1b := x1.1
  have h1c := x1.2.1
  have h2b := x2.1
  have h2c := x2.2.1
  have h3b := x3.1
  have h3c := x3.2.1
  refine ⟨by omega, by omega, fun z => x3.zr (x2.zr (x1.zr z)), fun k hk _ => ?_⟩
  obtain ⟨b1, b2⟩ := x2.2.2.2 k (by omega) id
  by_cases e : k = q
  · subst e
    refine ⟨(zz_rar_ok o3.2.2).2.trans (zz_rar_ok o.2.2).2.symm, ?_⟩
    rw [n3, b2, n1]
  · obtain ⟨a1, a2⟩ := x1.2.2.2 k hk e
    obtain ⟨c1, c2⟩ := x3.2.2.2 k (by omega) e
    exact ⟨c1.trans (b1.trans a1), c2.trans (b2.trans a2)⟩
theorem ls_back {j q : Nat} (e : rq[j]? = some (some q)) : (rq.set j none).set j (some q) = rq := by
  have hj := (List.getElem?_eq_some_iff.mp e).1
  refine List.ext_getElem? fun i => ?_
  by_cases c : j = i
  · subst c
    rw [List.getElem?_set_self (by rw [List.length_set]; exact hj), e]
  · rw [List.getElem?_set_ne c, List.getElem?_set_ne c]
/-- W without one of a town's points -/
theorem yTb_x {own : yOwn} {T : Nat → Nat → Int} {c i o p b q : Nat} {txo : Option Nat} {yd : Nat} (ok : tw_ok T c) (hi : i < c) (ey : T 1 i = (yd : Int)) (hy : yd < 360) (o1 : yO h w 12 [some (some o), some (some p), some (some b), none, some txo, none, none, none, none]) (hwq : w ≠ q) (hw0 : own q ≠ 0) (p1 : yR h p 6 rs) (hp : own p = 0) (q1 : rs[t]? = some (some q)) (hl : rs.length ≤ 4) (r1 : yR h q 5 rq) (r2 : rq.length = 360) (r3 : ∀ y : Nat, y < 360 → (∀ i, i < c → T 1 i = y → ∃ k, rq[y]? = some (some k) ∧ own k = 0 ∧ yP h k (tw_row T i)) ∧ ((∀ i, i < c → T 1 i ≠ y) → rq[y]? = some none)) (x1 : yx (fun z => z = q) 0 0 h h1) (R1 : yR h1 q 5 (rq.set yd none)) : yTb own h1 w t (tw_x T i) (c - 1) := by
  have ne : ∀ k, own k = 0 → ¬ k = q := fun k e z => hw0 (z ▸ e)
  refine ⟨o, p, b, txo, q, rs, rq.set yd none, o1.x x1 hwq, p1.x x1 (ne p hp), q1, hl, (List.getElem?_eq_some_iff.mp q1).1, R1, by rw [List.length_set]; exact r2, fun y h0 h360 => ⟨fun j hj e => ?_, fun hne => ?_⟩⟩
  · have hj2 : (if j < i then j else j + 1) < c := by split <;> omega
    have e2 : T 1 (if j < i then j else j + 1) = y := by
      by_cases b : j < i
      · rw [if_pos b, ← e, tw_x_lo b]
      · rw [if_neg b, ← e, tw_x_hi (by omega)]
    have hyy : y ≠ (yd : Int) := by
      by_cases b : j < i
      · rw [if_pos b] at e2
        have := tw_lt ok b hi
        omega
      · rw [if_neg b] at e2
        have := tw_lt ok (show i < j + 1 by omega) (by omega)
        omega
    obtain ⟨k, k1, k2, k3⟩ := (r3 y.toNat (by omega)).1 _ hj2 (by omega)
    refine ⟨k, ?_, k2, ?_⟩
    · rw [List.getElem?_set_ne (by omega)]
      exact k1
    · rw [tw_x_row]
      exact k3.x x1 (ne k k2)
  · by_cases c2 : y = (yd : Int)
    · rw [show y.toNat = yd by omega, List.getElem?_set_self (by omega)]
    · rw [List.getElem?_set_ne (by omega)]
      refine (r3 y.toNat (by omega)).2 fun j hj z => ?_
      rcases Nat.lt_trichotomy j i with b | b | b
      · refine hne j (by omega) ?_
        rw [tw_x_lo b]
        omega
      · rw [b] at z
        omega
      · refine hne (j - 1) (by omega) ?_
        rw [tw_x_hi (by omega), show j - 1 + 1 = j by omega]
        omega
end YHX
section YD19
variable {X : yy_X} {own : yOwn} {w t L : Nat} {xs : Nat → Int32} {lst : List (yBell × List fl_T)} {g0 g : aa_G} {h h0 : zz_H} {day fr : Int} {φ : Option Value → zz_H → Prop}
theorem yl_ls (F : yCf own w lst g0) (ht : (t : Int) < (g0 541 0).toInt) {A E k23 : Nat} {SP i18 i22 : Int} {x6 x7 x8 x9 x10 x11 x12 x13 x14 x15 x16 x17 x19 x20 x21 : Option Value} (hR : h0.1.1 + A + 100 < yy_B) (hc2 : 2 ≤ (av_c (g0 541) t)) (kk : ∀ h' x25 x26 x27, yCx own w lst g0 h' g → yx (yAk w) A E h0 h' → yy_fin X 298 (1145, [some (.ref 1), some (.ref w), some (.ref 0), some (.int (Int32.ofInt fr)), some (.int (Int32.ofInt (t : Int))), some (.int (Int32.ofInt day)), x6, x7, x8, x9, x10, x11, x12, x13, x14, x15, x16, x17, some (.int (Int32.ofInt i18)), x19, x20, x21, some (.int (Int32.ofInt i22)), some (.ref k23), some (.int (Int32.ofInt SP)), x25, x26, x27], [], h') φ) : ∀ (n y : Nat) (h : zz_H) (i : Nat) (sp : Int) (x26 x27 : Option Value) (a e : Nat), y + n = 360 → i ≤ (av_c (g0 541) t) → (∀ j, j < i → (av_t (g0 541) t) 1 j < y) → (∀ j, i ≤ j → j < (av_c (g0 541) t) → (y : Int) ≤ (av_t (g0 541) t) 1 j) → fd_i (sl_f (g0 541) t) i ((av_c (g0 541) t) - i) sp = SP → yCx own w lst g0 h g → yx (yAk w) a e h0 h → a + 1 * n ≤ A → e + 2 * n ≤ E → yy_fin X 298 (1020, [some (.ref 1), some (.ref w), some (.ref 0), some (.int (Int32.ofInt fr)), some (.int (Int32.ofInt (t : Int))), some (.int (Int32.ofInt day)), x6, x7, x8, x9, x10, x11, x12, x13, x14, x15, x16, x17, some (.int (Int32.ofInt i18)), x19, x20, x21, some (.int (Int32.ofInt i22)), some (.ref k23), some (.int (Int32.ofInt sp)), some (.int (Int32.ofInt (y : Int))), x26, x27], [], h) φ
  | 0, y, h, i, sp, x26, x27, a, e, hn, hi, hlo, hhi, eS, C, Y, hA, hE => by
    have n4 := F.2.2.2.1
    have hq := F.2.2.2.2.1
    have hY := Y.1
    have hg := C.2.1.2
    have l8 := F.2.2.1.2.1
    have ok := (F.2.2.2.2.2 t ht).2
    have c12 := ok.1
    have n3 := ok.2.1
    have ei : i = (av_c (g0 541) t) := by
      rcases Nat.lt_or_eq_of_le hi with z | z
      · have := hhi i (Nat.le_refl i) z
        have := n3 i z
        omega
      · exact z
    rw [ei, Nat.sub_self] at eS
    have eS : sp = SP := eS
    subst eS
    refine yy_fin.steps (n := 2) (s' := (1025, [some (.ref 1), some (.ref w), some (.ref 0), some (.int (Int32.ofInt fr)), some (.int (Int32.ofInt (t : Int))), some (.int (Int32.ofInt day)), x6, x7, x8, x9, x10, x11, x12, x13, x14, x15, x16, x17, some (.int (Int32.ofInt i18)), x19, x20, x21, some (.int (Int32.ofInt i22)), some (.ref k23), some (.int (Int32.ofInt sp)), some (.int (Int32.ofInt (y : Int))), x26, x27], [.int (Int32.ofInt 360), .int (Int32.ofInt (y : Int))], h)) rfl ?_
    refine yy_fin.ic rfl (fun cq => ?_) (fun cq => absurd ((yi_c_ge (a := (y : Int)) (b := 360) (by omega) (by omega)).mpr (by omega)) cq)
    have cq := (yi_c_ge (a := (y : Int)) (b := 360) (by omega) (by omega)).mp cq
    exact kk _ _ _ _ C (Y.le (by omega) (by omega))
  | n + 1, y, h, i, sp, x26, x27, a, e, hn, hi, hlo, hhi, eS, C, Y, hA, hE => by
    have n4 := F.2.2.2.1
    have hq := F.2.2.2.2.1
    have hY := Y.1
    have hg := C.2.1.2
    have l8 := F.2.2.1.2.1
    have ok := (F.2.2.2.2.2 t ht).2
    have c12 := ok.1
    have n3 := ok.2.1
    obtain ⟨ow0, oo, p, b, tx, o1, o2, of_, ⟨ts1, rs, ts2, ts3, ts4⟩, bb⟩ := id C.2.2.2.1
    have htn : t < (g0 541 0).toInt.toNat := by omega
    obtain ⟨q, q1, q2, rq, r1, r2, r3⟩ := ts4 t (yT_of (g0 541) t) (yTs_at htn)
    have hrl : rs.length ≤ 4 := by rw [ts3]; show (yTs_of (g0 541)).length ≤ 4; rw [yTs_len]; omega
    have hrt := (List.getElem?_eq_some_iff.mp q1).1
    have hw0 : own q ≠ 0 := by rw [q2]; have := F.1; omega
    have hwq : w ≠ q := fun z => by
      rw [← z] at r1
      have e1 := (zz_obj_ok o1.2.2).2
      rw [(zz_rar_ok r1.2.2).2] at e1
      exact nomatch e1
    have hpq : p ≠ q := fun z => hw0 (z ▸ ts1)
    refine yy_fin.steps (n := 2) (s' := (1025, [some (.ref 1), some (.ref w), some (.ref 0), some (.int (Int32.ofInt fr)), some (.int (Int32.ofInt (t : Int))), some (.int (Int32.ofInt day)), x6, x7, x8, x9, x10, x11, x12, x13, x14, x15, x16, x17, some (.int (Int32.ofInt i18)), x19, x20, x21, some (.int (Int32.ofInt i22)), some (.ref k23), some (.int (Int32.ofInt sp)), some (.int (Int32.ofInt (y : Int))), x26, x27], [.int (Int32.ofInt 360), .int (Int32.ofInt (y : Int))], h)) rfl ?_
    refine yy_fin.ic rfl (fun cq => absurd ((yi_c_ge (a := (y : Int)) (b := 360) (by omega) (by omega)).mp cq) (by omega)) (fun cq => ?_)
    have cq := mt (yi_c_ge (a := (y : Int)) (b := 360) (by omega) (by omega)).mpr cq
    refine yy_fin.steps (n := 2) (s' := (1031, [some (.ref 1), some (.ref w), some (.ref 0), some (.int (Int32.ofInt fr)), some (.int (Int32.ofInt (t : Int))), some (.int (Int32.ofInt day)), x6, x7, x8, x9, x10, x11, x12, x13, x14, x15, x16, x17, some (.int (Int32.ofInt i18)), x19, x20, x21, some (.int (Int32.ofInt i22)), some (.ref k23), some (.int (Int32.ofInt sp)), some (.int (Int32.ofInt (y : Int))), x26, x27], [.int (Int32.ofInt (t : Int)), .ref w], h)) rfl ?_
    refine yy_fin.cv (as := [.int (Int32.ofInt (t : Int))]) rfl rfl rfl o1 (Nat.le_of_ble_eq_true rfl) (Nat.le_of_ble_eq_true rfl) (yw_many (C.tb F ht) ok) ?_
    rintro v h9 ⟨rfl, e9⟩
    obtain rfl := e9.symm
    refine yy_fin.steps (n := 1) (s' := (1035, [some (.ref 1), some (.ref w), some (.ref 0), some (.int (Int32.ofInt fr)), some (.int (Int32.ofInt (t : Int))), some (.int (Int32.ofInt day)), x6, x7, x8, x9, x10, x11, x12, x13, x14, x15, x16, x17, some (.int (Int32.ofInt i18)), x19, x20, x21, some (.int (Int32.ofInt i22)), some (.ref k23), some (.int (Int32.ofInt sp)), some (.int (Int32.ofInt (y : Int))), x26, x27], [.int (Int32.ofInt 1), .int (Int32.ofInt ((av_c (g0 541) t) : Int))], h)) rfl ?_
    refine yy_fin.ic rfl (fun cq => absurd ((yi_c_le (a := ((av_c (g0 541) t) : Int)) (b := 1) (by omega) (by omega)).mp cq) (by omega)) (fun cq => ?_)
    have cq := mt (yi_c_le (a := ((av_c (g0 541) t) : Int)) (b := 1) (by omega) (by omega)).mpr cq
    refine yy_fin.steps (n := 1) (s' := (1039, [some (.ref 1), some (.ref w), some (.ref 0), some (.int (Int32.ofInt fr)), some (.int (Int32.ofInt (t : Int))), some (.int (Int32.ofInt day)), x6, x7, x8, x9, x10, x11, x12, x13, x14, x15, x16, x17, some (.int (Int32.ofInt i18)), x19, x20, x21, some (.int (Int32.ofInt i22)), some (.ref k23), some (.int (Int32.ofInt sp)), some (.int (Int32.ofInt (y : Int))), x26, x27], [.ref w], h)) rfl ?_
    refine yy_fin.fr rfl o1 rfl ?_
    refine yy_fin.steps (n := 1) (s' := (1044, [some (.ref 1), some (.ref w), some (.ref 0), some (.int (Int32.ofInt fr)), some (.int (Int32.ofInt (t : Int))), some (.int (Int32.ofInt day)), x6, x7, x8, x9, x10, x11, x12, x13, x14, x15, x16, x17, some (.int (Int32.ofInt i18)), x19, x20, x21, some (.int (Int32.ofInt i22)), some (.ref k23), some (.int (Int32.ofInt sp)), some (.int (Int32.ofInt (y : Int))), x26, x27], [.int (Int32.ofInt (t : Int)), .ref p], h)) rfl ?_
    refine yy_fin.ar rfl ts2 (by decide) (yi_inb (a := (t : Int)) (by omega) (by omega) (by omega)) ((yi_cl (a := (t : Int)) (by omega)).trans (Int.toNat_natCast t)) q1 ?_
    refine yy_fin.steps (n := 1) (s' := (1047, [some (.ref 1), some (.ref w), some (.ref 0), some (.int (Int32.ofInt fr)), some (.int (Int32.ofInt (t : Int))), some (.int (Int32.ofInt day)), x6, x7, x8, x9, x10, x11, x12, x13, x14, x15, x16, x17, some (.int (Int32.ofInt i18)), x19, x20, x21, some (.int (Int32.ofInt i22)), some (.ref k23), some (.int (Int32.ofInt sp)), some (.int (Int32.ofInt (y : Int))), x26, x27], [.int (Int32.ofInt (y : Int)), .ref q], h)) rfl ?_
    by_cases hp : i < (av_c (g0 541) t) ∧ (av_t (g0 541) t) 1 i = (y : Int)
    · obtain ⟨hic, ey⟩ := hp
      obtain ⟨k6, ek, ok6, P6⟩ := (r3 y (by omega)).1 i hic ey
      have hk6q : ¬ k6 = q := fun z => hw0 (z ▸ ok6)
      have n4i := ok.2.2.2 i hic
      have P6 : yP h k6 (tw_row (av_t (g0 541) t) i) := P6
      have oA := ok.2.2.2 _ (ll_A_lt hic)
      have oB := ok.2.2.2 _ (ll_B_lt hic)
      have hll : -1 ≤ ll_P (av_t (g0 541) t) (ll_A (av_c (g0 541) t) i) (ll_B (av_c (g0 541) t) i) ∧ ll_P (av_t (g0 541) t) (ll_A (av_c (g0 541) t) i) (ll_B (av_c (g0 541) t) i) ≤ 1 := by unfold ll_P; split <;> omega
      refine yy_fin.ar rfl r1 (by decide) (yi_inb (a := (y : Int)) (by omega) (by omega) (by omega)) ((yi_cl (a := (y : Int)) (by omega)).trans (Int.toNat_natCast y)) ek ?_
      refine yy_fin.steps (n := 4) (s' := (1059, [some (.ref 1), some (.ref w), some (.ref 0), some (.int (Int32.ofInt fr)), some (.int (Int32.ofInt (t : Int))), some (.int (Int32.ofInt day)), x6, x7, x8, x9, x10, x11, x12, x13, x14, x15, x16, x17, some (.int (Int32.ofInt i18)), x19, x20, x21, some (.int (Int32.ofInt i22)), some (.ref k23), some (.int (Int32.ofInt sp)), some (.int (Int32.ofInt (y : Int))), some (.ref k6), x27], [.ref w], h)) rfl ?_
      refine yy_fin.fr rfl o1 rfl ?_
      refine yy_fin.steps (n := 1) (s' := (1064, [some (.ref 1), some (.ref w), some (.ref 0), some (.int (Int32.ofInt fr)), some (.int (Int32.ofInt (t : Int))), some (.int (Int32.ofInt day)), x6, x7, x8, x9, x10, x11, x12, x13, x14, x15, x16, x17, some (.int (Int32.ofInt i18)), x19, x20, x21, some (.int (Int32.ofInt i22)), some (.ref k23), some (.int (Int32.ofInt sp)), some (.int (Int32.ofInt (y : Int))), some (.ref k6), x27], [.int (Int32.ofInt (t : Int)), .ref p], h)) rfl ?_
      refine yy_fin.ar rfl ts2 (by decide) (yi_inb (a := (t : Int)) (by omega) (by omega) (by omega)) ((yi_cl (a := (t : Int)) (by omega)).trans (Int.toNat_natCast t)) q1 ?_
      refine yy_fin.steps (n := 2) (s' := (1068, [some (.ref 1), some (.ref w), some (.ref 0), some (.int (Int32.ofInt fr)), some (.int (Int32.ofInt (t : Int))), some (.int (Int32.ofInt day)), x6, x7, x8, x9, x10, x11, x12, x13, x14, x15, x16, x17, some (.int (Int32.ofInt i18)), x19, x20, x21, some (.int (Int32.ofInt i22)), some (.ref k23), some (.int (Int32.ofInt sp)), some (.int (Int32.ofInt (y : Int))), some (.ref k6), x27], [.null, .int (Int32.ofInt (y : Int)), .ref q], h)) rfl ?_
      refine yy_fin.asN2 rfl r1 (yi_inb (a := (y : Int)) (by omega) (by omega) (by omega)) ((yi_cl (a := (y : Int)) (by omega)).trans (Int.toNat_natCast y)) fun h1 x1 m1 R1 => ?_
      have c1 := x1.1
      refine yy_fin.steps (n := 3) (s' := (1074, [some (.ref 1), some (.ref w), some (.ref 0), some (.int (Int32.ofInt fr)), some (.int (Int32.ofInt (t : Int))), some (.int (Int32.ofInt day)), x6, x7, x8, x9, x10, x11, x12, x13, x14, x15, x16, x17, some (.int (Int32.ofInt i18)), x19, x20, x21, some (.int (Int32.ofInt i22)), some (.ref k23), some (.int (Int32.ofInt sp)), some (.int (Int32.ofInt (y : Int))), some (.ref k6), x27], [.int (Int32.ofInt (y : Int)), .int (Int32.ofInt (t : Int)), .ref w], h1)) rfl ?_
      have W1 := yTb_x (T := (av_t (g0 541) t)) (c := (av_c (g0 541) t)) ok hic ey (by omega) o1 hwq hw0 ts2 ts1 q1 hrl r1 r2 r3 x1 R1
      refine yy_fin.cv (as := [.int (Int32.ofInt (t : Int)), .int (Int32.ofInt (y : Int))]) rfl rfl rfl (o1.x x1 hwq) (Nat.le_of_ble_eq_true rfl) (Nat.le_of_ble_eq_true rfl) (yw_table W1 (tw_x_ok ok hic) (day := (y : Int)) (by omega) (by omega) (x1.zr C.2.2.2.2)) ?_
      rintro v h2 ⟨k7, rfl, x2, hk7, P7⟩
      have c2 := x2.1
      rw [show (y : Int) % 360 = (av_t (g0 541) t) 1 i by rw [ey]; omega, tw_x_P ok hic hc2, tw_x_D ok hic hc2, tw_x_D ok hic hc2] at P7
      refine yy_fin.steps (n := 2) (s' := (1080, [some (.ref 1), some (.ref w), some (.ref 0), some (.int (Int32.ofInt fr)), some (.int (Int32.ofInt (t : Int))), some (.int (Int32.ofInt day)), x6, x7, x8, x9, x10, x11, x12, x13, x14, x15, x16, x17, some (.int (Int32.ofInt i18)), x19, x20, x21, some (.int (Int32.ofInt i22)), some (.ref k23), some (.int (Int32.ofInt sp)), some (.int (Int32.ofInt (y : Int))), some (.ref k6), some (.ref k7)], [.ref w], h2)) rfl ?_
      refine yy_fin.fr rfl ((o1.x x1 hwq).x x2 id) rfl ?_
      refine yy_fin.steps (n := 1) (s' := (1085, [some (.ref 1), some (.ref w), some (.ref 0), some (.int (Int32.ofInt fr)), some (.int (Int32.ofInt (t : Int))), some (.int (Int32.ofInt day)), x6, x7, x8, x9, x10, x11, x12, x13, x14, x15, x16, x17, some (.int (Int32.ofInt i18)), x19, x20, x21, some (.int (Int32.ofInt i22)), some (.ref k23), some (.int (Int32.ofInt sp)), some (.int (Int32.ofInt (y : Int))), some (.ref k6), some (.ref k7)], [.int (Int32.ofInt (t : Int)), .ref p], h2)) rfl ?_
      refine yy_fin.ar rfl ((ts2.x x1 hpq).x x2 id) (by decide) (yi_inb (a := (t : Int)) (by omega) (by omega) (by omega)) ((yi_cl (a := (t : Int)) (by omega)).trans (Int.toNat_natCast t)) q1 ?_
      refine yy_fin.steps (n := 2) (s' := (1090, [some (.ref 1), some (.ref w), some (.ref 0), some (.int (Int32.ofInt fr)), some (.int (Int32.ofInt (t : Int))), some (.int (Int32.ofInt day)), x6, x7, x8, x9, x10, x11, x12, x13, x14, x15, x16, x17, some (.int (Int32.ofInt i18)), x19, x20, x21, some (.int (Int32.ofInt i22)), some (.ref k23), some (.int (Int32.ofInt sp)), some (.int (Int32.ofInt (y : Int))), some (.ref k6), some (.ref k7)], [.ref k6, .int (Int32.ofInt (y : Int)), .ref q], h2)) rfl ?_
      refine yy_fin.aw2 rfl (R1.x x2 id) (by decide) (by rw [List.length_set]; exact yi_inb (a := (y : Int)) (by omega) (by omega) (by omega)) ((yi_cl (a := (y : Int)) (by omega)).trans (Int.toNat_natCast y)) P6.1.1 (yy_kd5 ((P6.x x1 hk6q).x x2 id)) fun h3 x3 m3 R3 => ?_
      rw [ls_back ek] at R3
      have xx := yx_back x1 m1 x2 x3 m3 r1 R3
      have hk7q : ¬ k7 = q := by
        rcases hk7 with z | z
        · exact fun e => hw0 (e ▸ z)
        · exact fun e => by rw [e] at z; exact Nat.lt_irrefl _ (Nat.lt_of_lt_of_le z (Nat.le_trans r1.le c1.1))
      replace P6 := P6.x xx id
      replace P7 := P7.x x3 hk7q
      replace C := C.f xx
      have hx3 := xx.1
      replace Y := Y.tr (xx.ak (w := w)) (fun _ _ e => e)
      replace hY := Y.1
      have lv0 : ll_ver (av_t (g0 541) t) (av_c (g0 541) t) i = (if ll_P (av_t (g0 541) t) (ll_A (av_c (g0 541) t) i) (ll_B (av_c (g0 541) t) i) = -1 then (if (av_t (g0 541) t) 4 i = -1 then (if ll_D (av_t (g0 541) t) (ll_A (av_c (g0 541) t) i) (ll_B (av_c (g0 541) t) i) ((av_t (g0 541) t) 1 i) 2 = (av_t (g0 541) t) 2 i then (if ll_D (av_t (g0 541) t) (ll_A (av_c (g0 541) t) i) (ll_B (av_c (g0 541) t) i) ((av_t (g0 541) t) 1 i) 3 = (av_t (g0 541) t) 3 i then 1 else 0) else 0) else 0) else if ll_P (av_t (g0 541) t) (ll_A (av_c (g0 541) t) i) (ll_B (av_c (g0 541) t) i) = (av_t (g0 541) t) 4 i then 1 else 0) := rfl
      have hdb : ll_P (av_t (g0 541) t) (ll_A (av_c (g0 541) t) i) (ll_B (av_c (g0 541) t) i) = -1 → 0 ≤ ll_D (av_t (g0 541) t) (ll_A (av_c (g0 541) t) i) (ll_B (av_c (g0 541) t) i) ((av_t (g0 541) t) 1 i) 2 ∧ ll_D (av_t (g0 541) t) (ll_A (av_c (g0 541) t) i) (ll_B (av_c (g0 541) t) i) ((av_t (g0 541) t) 1 i) 2 < ll_D (av_t (g0 541) t) (ll_A (av_c (g0 541) t) i) (ll_B (av_c (g0 541) t) i) ((av_t (g0 541) t) 1 i) 3 ∧ ll_D (av_t (g0 541) t) (ll_A (av_c (g0 541) t) i) (ll_B (av_c (g0 541) t) i) ((av_t (g0 541) t) 1 i) 3 ≤ 86399 := fun z => by
        have h9 := tw_D_b (v := (av_t (g0 541) t) 1 i) (tw_x_ok ok hic) (by omega) (n3 i hic) (by rw [tw_x_P ok hic hc2]; exact z)
        rw [tw_x_D ok hic hc2, tw_x_D ok hic hc2] at h9
        exact h9
      generalize ll_P (av_t (g0 541) t) (ll_A (av_c (g0 541) t) i) (ll_B (av_c (g0 541) t) i) = PP at *
      generalize ll_D (av_t (g0 541) t) (ll_A (av_c (g0 541) t) i) (ll_B (av_c (g0 541) t) i) ((av_t (g0 541) t) 1 i) 2 = D2 at *
      generalize ll_D (av_t (g0 541) t) (ll_A (av_c (g0 541) t) i) (ll_B (av_c (g0 541) t) i) ((av_t (g0 541) t) 1 i) 3 = D3 at *
      unfold tw_row at P6
      by_cases w1 : PP = -1
      · rw [if_pos w1] at P7 lv0
        have hdb := hdb w1
        by_cases w2 : (av_t (g0 541) t) 4 i = -1
        · rw [if_pos w2] at P6 lv0
          have w3 := n4i.2.2.2 w2
          refine yy_fin.steps (n := 2) (s' := (1095, [some (.ref 1), some (.ref w), some (.ref 0), some (.int (Int32.ofInt fr)), some (.int (Int32.ofInt (t : Int))), some (.int (Int32.ofInt day)), x6, x7, x8, x9, x10, x11, x12, x13, x14, x15, x16, x17, some (.int (Int32.ofInt i18)), x19, x20, x21, some (.int (Int32.ofInt i22)), some (.ref k23), some (.int (Int32.ofInt sp)), some (.int (Int32.ofInt (y : Int))), some (.ref k6), some (.ref k7)], [.ref k6, .int (Int32.ofInt sp)], h3)) rfl ?_
          refine yy_fin.ll rfl (show yI h3 k6 2 from P6.1) ?_
          rw [show Int32.ofNat 2 = Int32.ofInt 2 from rfl]
          refine yy_fin.steps (n := 1) (s' := (1098, [some (.ref 1), some (.ref w), some (.ref 0), some (.int (Int32.ofInt fr)), some (.int (Int32.ofInt (t : Int))), some (.int (Int32.ofInt day)), x6, x7, x8, x9, x10, x11, x12, x13, x14, x15, x16, x17, some (.int (Int32.ofInt i18)), x19, x20, x21, some (.int (Int32.ofInt i22)), some (.ref k23), some (.int (Int32.ofInt sp)), some (.int (Int32.ofInt (y : Int))), some (.ref k6), some (.ref k7)], [.ref k7, .int (Int32.ofInt 2), .int (Int32.ofInt sp)], h3)) rfl ?_
          refine yy_fin.ll rfl (show yI h3 k7 2 from P7.1) ?_
          rw [show Int32.ofNat 2 = Int32.ofInt 2 from rfl]
          refine yy_fin.ic rfl (fun cK => absurd cK (by decide)) (fun cK => ?_)
          refine yy_fin.steps (n := 2) (s' := (1105, [some (.ref 1), some (.ref w), some (.ref 0), some (.int (Int32.ofInt fr)), some (.int (Int32.ofInt (t : Int))), some (.int (Int32.ofInt day)), x6, x7, x8, x9, x10, x11, x12, x13, x14, x15, x16, x17, some (.int (Int32.ofInt i18)), x19, x20, x21, some (.int (Int32.ofInt i22)), some (.ref k23), some (.int (Int32.ofInt sp)), some (.int (Int32.ofInt (y : Int))), some (.ref k6), some (.ref k7)], [.int (Int32.ofInt 0), .ref k6, .int (Int32.ofInt sp)], h3)) rfl ?_
          refine yy_fin.lp (j := 0) rfl P6 rfl (by decide) rfl ?_
          refine yy_fin.steps (n := 2) (s' := (1109, [some (.ref 1), some (.ref w), some (.ref 0), some (.int (Int32.ofInt fr)), some (.int (Int32.ofInt (t : Int))), some (.int (Int32.ofInt day)), x6, x7, x8, x9, x10, x11, x12, x13, x14, x15, x16, x17, some (.int (Int32.ofInt i18)), x19, x20, x21, some (.int (Int32.ofInt i22)), some (.ref k23), some (.int (Int32.ofInt sp)), some (.int (Int32.ofInt (y : Int))), some (.ref k6), some (.ref k7)], [.int (Int32.ofInt 0), .ref k7, .int (Int32.ofInt ((av_t (g0 541) t) 2 i)), .int (Int32.ofInt sp)], h3)) rfl ?_
          refine yy_fin.lp (j := 0) rfl P7 rfl (by decide) rfl ?_
          refine yy_fin.ic rfl (fun c101 => ?_) (fun c101 => ?_)
          · have c101 := (yi_c_ne (a := (av_t (g0 541) t) 2 i) (b := D2) (by omega) (by omega)).mp c101
            refine yy_fin.steps (n := 1) (s' := (1136, [some (.ref 1), some (.ref w), some (.ref 0), some (.int (Int32.ofInt fr)), some (.int (Int32.ofInt (t : Int))), some (.int (Int32.ofInt day)), x6, x7, x8, x9, x10, x11, x12, x13, x14, x15, x16, x17, some (.int (Int32.ofInt i18)), x19, x20, x21, some (.int (Int32.ofInt i22)), some (.ref k23), some (.int (Int32.ofInt sp)), some (.int (Int32.ofInt (y : Int))), some (.ref k6), some (.ref k7)], [.int (Int32.ofInt 0), .int (Int32.ofInt sp)], h3)) rfl ?_
            have ev : (ll_ver (av_t (g0 541) t) (av_c (g0 541) t) i).toInt = 0 := by
              rw [lv0]
              by_cases z2 : D2 = (av_t (g0 541) t) 2 i
              · rw [if_pos z2, if_neg (by omega)]
                rfl
              · rw [if_neg z2]
                rfl
            rw [show Int32.ofInt 0 = Int32.ofInt ((ll_ver (av_t (g0 541) t) (av_c (g0 541) t) i).toInt) by rw [ev]]
            refine yy_fin.steps (n := 4) (s' := (1020, [some (.ref 1), some (.ref w), some (.ref 0), some (.int (Int32.ofInt fr)), some (.int (Int32.ofInt (t : Int))), some (.int (Int32.ofInt day)), x6, x7, x8, x9, x10, x11, x12, x13, x14, x15, x16, x17, some (.int (Int32.ofInt i18)), x19, x20, x21, some (.int (Int32.ofInt i22)), some (.ref k23), some (.int ((Int32.ofInt sp) + (Int32.ofInt ((ll_ver (av_t (g0 541) t) (av_c (g0 541) t) i).toInt)))), some (.int ((Int32.ofInt (y : Int)) + (Int32.ofInt 1))), some (.ref k6), some (.ref k7)], [], h3)) rfl ?_
            rw [yi_add sp ((ll_ver (av_t (g0 541) t) (av_c (g0 541) t) i).toInt)]
            rw [yi_add (y : Int) 1]
            rw [show (y : Int) + 1 = ((y + 1 : Nat) : Int) by omega]
            have em : (av_c (g0 541) t) - i = ((av_c (g0 541) t) - (i + 1)) + 1 := by omega
            rw [em, fd_i_c] at eS
            refine yl_ls F ht hR hc2 kk n (y + 1) _ (i + 1) _ _ _ _ _ (by omega) (by omega) (fun j hj => ?_) (fun j hj hjc => ?_) eS C Y (by omega) (by omega)
            · rcases Nat.lt_or_eq_of_le (Nat.le_of_lt_succ hj) with z | z
              · have := hlo j z
                omega
              · rw [z]
                omega
            · have := tw_lt ok (show i < j by omega) hjc
              omega
          · have c101 := mt (yi_c_ne (a := (av_t (g0 541) t) 2 i) (b := D2) (by omega) (by omega)).mpr c101
            refine yy_fin.steps (n := 1) (s' := (1115, [some (.ref 1), some (.ref w), some (.ref 0), some (.int (Int32.ofInt fr)), some (.int (Int32.ofInt (t : Int))), some (.int (Int32.ofInt day)), x6, x7, x8, x9, x10, x11, x12, x13, x14, x15, x16, x17, some (.int (Int32.ofInt i18)), x19, x20, x21, some (.int (Int32.ofInt i22)), some (.ref k23), some (.int (Int32.ofInt sp)), some (.int (Int32.ofInt (y : Int))), some (.ref k6), some (.ref k7)], [.ref k6, .int (Int32.ofInt sp)], h3)) rfl ?_
            refine yy_fin.ll rfl (show yI h3 k6 2 from P6.1) ?_
            rw [show Int32.ofNat 2 = Int32.ofInt 2 from rfl]
            refine yy_fin.steps (n := 1) (s' := (1117, [some (.ref 1), some (.ref w), some (.ref 0), some (.int (Int32.ofInt fr)), some (.int (Int32.ofInt (t : Int))), some (.int (Int32.ofInt day)), x6, x7, x8, x9, x10, x11, x12, x13, x14, x15, x16, x17, some (.int (Int32.ofInt i18)), x19, x20, x21, some (.int (Int32.ofInt i22)), some (.ref k23), some (.int (Int32.ofInt sp)), some (.int (Int32.ofInt (y : Int))), some (.ref k6), some (.ref k7)], [.int (Int32.ofInt 1), .int (Int32.ofInt 2), .int (Int32.ofInt sp)], h3)) rfl ?_
            refine yy_fin.ic rfl (fun cK => absurd cK (by decide)) (fun cK => ?_)
            refine yy_fin.steps (n := 2) (s' := (1123, [some (.ref 1), some (.ref w), some (.ref 0), some (.int (Int32.ofInt fr)), some (.int (Int32.ofInt (t : Int))), some (.int (Int32.ofInt day)), x6, x7, x8, x9, x10, x11, x12, x13, x14, x15, x16, x17, some (.int (Int32.ofInt i18)), x19, x20, x21, some (.int (Int32.ofInt i22)), some (.ref k23), some (.int (Int32.ofInt sp)), some (.int (Int32.ofInt (y : Int))), some (.ref k6), some (.ref k7)], [.int (Int32.ofInt 1), .ref k6, .int (Int32.ofInt sp)], h3)) rfl ?_
            refine yy_fin.lp (j := 1) rfl P6 rfl (by decide) rfl ?_
            refine yy_fin.steps (n := 2) (s' := (1127, [some (.ref 1), some (.ref w), some (.ref 0), some (.int (Int32.ofInt fr)), some (.int (Int32.ofInt (t : Int))), some (.int (Int32.ofInt day)), x6, x7, x8, x9, x10, x11, x12, x13, x14, x15, x16, x17, some (.int (Int32.ofInt i18)), x19, x20, x21, some (.int (Int32.ofInt i22)), some (.ref k23), some (.int (Int32.ofInt sp)), some (.int (Int32.ofInt (y : Int))), some (.ref k6), some (.ref k7)], [.int (Int32.ofInt 1), .ref k7, .int (Int32.ofInt ((av_t (g0 541) t) 3 i)), .int (Int32.ofInt sp)], h3)) rfl ?_
            refine yy_fin.lp (j := 1) rfl P7 rfl (by decide) rfl ?_
            refine yy_fin.ic rfl (fun c102 => ?_) (fun c102 => ?_)
            · have c102 := (yi_c_ne (a := (av_t (g0 541) t) 3 i) (b := D3) (by omega) (by omega)).mp c102
              refine yy_fin.steps (n := 1) (s' := (1136, [some (.ref 1), some (.ref w), some (.ref 0), some (.int (Int32.ofInt fr)), some (.int (Int32.ofInt (t : Int))), some (.int (Int32.ofInt day)), x6, x7, x8, x9, x10, x11, x12, x13, x14, x15, x16, x17, some (.int (Int32.ofInt i18)), x19, x20, x21, some (.int (Int32.ofInt i22)), some (.ref k23), some (.int (Int32.ofInt sp)), some (.int (Int32.ofInt (y : Int))), some (.ref k6), some (.ref k7)], [.int (Int32.ofInt 0), .int (Int32.ofInt sp)], h3)) rfl ?_
              have ev : (ll_ver (av_t (g0 541) t) (av_c (g0 541) t) i).toInt = 0 := by
                rw [lv0]
                by_cases z2 : D2 = (av_t (g0 541) t) 2 i
                · rw [if_pos z2, if_neg (by omega)]
                  rfl
                · rw [if_neg z2]
                  rfl
              rw [show Int32.ofInt 0 = Int32.ofInt ((ll_ver (av_t (g0 541) t) (av_c (g0 541) t) i).toInt) by rw [ev]]
              refine yy_fin.steps (n := 4) (s' := (1020, [some (.ref 1), some (.ref w), some (.ref 0), some (.int (Int32.ofInt fr)), some (.int (Int32.ofInt (t : Int))), some (.int (Int32.ofInt day)), x6, x7, x8, x9, x10, x11, x12, x13, x14, x15, x16, x17, some (.int (Int32.ofInt i18)), x19, x20, x21, some (.int (Int32.ofInt i22)), some (.ref k23), some (.int ((Int32.ofInt sp) + (Int32.ofInt ((ll_ver (av_t (g0 541) t) (av_c (g0 541) t) i).toInt)))), some (.int ((Int32.ofInt (y : Int)) + (Int32.ofInt 1))), some (.ref k6), some (.ref k7)], [], h3)) rfl ?_
              rw [yi_add sp ((ll_ver (av_t (g0 541) t) (av_c (g0 541) t) i).toInt)]
              rw [yi_add (y : Int) 1]
              rw [show (y : Int) + 1 = ((y + 1 : Nat) : Int) by omega]
              have em : (av_c (g0 541) t) - i = ((av_c (g0 541) t) - (i + 1)) + 1 := by omega
              rw [em, fd_i_c] at eS
              refine yl_ls F ht hR hc2 kk n (y + 1) _ (i + 1) _ _ _ _ _ (by omega) (by omega) (fun j hj => ?_) (fun j hj hjc => ?_) eS C Y (by omega) (by omega)
              · rcases Nat.lt_or_eq_of_le (Nat.le_of_lt_succ hj) with z | z
                · have := hlo j z
                  omega
                · rw [z]
                  omega
              · have := tw_lt ok (show i < j by omega) hjc
                omega
            · have c102 := mt (yi_c_ne (a := (av_t (g0 541) t) 3 i) (b := D3) (by omega) (by omega)).mpr c102
              refine yy_fin.steps (n := 2) (s' := (1136, [some (.ref 1), some (.ref w), some (.ref 0), some (.int (Int32.ofInt fr)), some (.int (Int32.ofInt (t : Int))), some (.int (Int32.ofInt day)), x6, x7, x8, x9, x10, x11, x12, x13, x14, x15, x16, x17, some (.int (Int32.ofInt i18)), x19, x20, x21, some (.int (Int32.ofInt i22)), some (.ref k23), some (.int (Int32.ofInt sp)), some (.int (Int32.ofInt (y : Int))), some (.ref k6), some (.ref k7)], [.int (Int32.ofInt 1), .int (Int32.ofInt sp)], h3)) rfl ?_
              have ev : (ll_ver (av_t (g0 541) t) (av_c (g0 541) t) i).toInt = 1 := by
                rw [lv0, if_pos (by omega), if_pos (by omega)]
                rfl
              rw [show Int32.ofInt 1 = Int32.ofInt ((ll_ver (av_t (g0 541) t) (av_c (g0 541) t) i).toInt) by rw [ev]]
              refine yy_fin.steps (n := 4) (s' := (1020, [some (.ref 1), some (.ref w), some (.ref 0), some (.int (Int32.ofInt fr)), some (.int (Int32.ofInt (t : Int))), some (.int (Int32.ofInt day)), x6, x7, x8, x9, x10, x11, x12, x13, x14, x15, x16, x17, some (.int (Int32.ofInt i18)), x19, x20, x21, some (.int (Int32.ofInt i22)), some (.ref k23), some (.int ((Int32.ofInt sp) + (Int32.ofInt ((ll_ver (av_t (g0 541) t) (av_c (g0 541) t) i).toInt)))), some (.int ((Int32.ofInt (y : Int)) + (Int32.ofInt 1))), some (.ref k6), some (.ref k7)], [], h3)) rfl ?_
              rw [yi_add sp ((ll_ver (av_t (g0 541) t) (av_c (g0 541) t) i).toInt)]
              rw [yi_add (y : Int) 1]
              rw [show (y : Int) + 1 = ((y + 1 : Nat) : Int) by omega]
              have em : (av_c (g0 541) t) - i = ((av_c (g0 541) t) - (i + 1)) + 1 := by omega
              rw [em, fd_i_c] at eS
              refine yl_ls F ht hR hc2 kk n (y + 1) _ (i + 1) _ _ _ _ _ (by omega) (by omega) (fun j hj => ?_) (fun j hj hjc => ?_) eS C Y (by omega) (by omega)
              · rcases Nat.lt_or_eq_of_le (Nat.le_of_lt_succ hj) with z | z
                · have := hlo j z
                  omega
                · rw [z]
                  omega
              · have := tw_lt ok (show i < j by omega) hjc
                omega
        · rw [if_neg w2] at P6 lv0
          refine yy_fin.steps (n := 2) (s' := (1095, [some (.ref 1), some (.ref w), some (.ref 0), some (.int (Int32.ofInt fr)), some (.int (Int32.ofInt (t : Int))), some (.int (Int32.ofInt day)), x6, x7, x8, x9, x10, x11, x12, x13, x14, x15, x16, x17, some (.int (Int32.ofInt i18)), x19, x20, x21, some (.int (Int32.ofInt i22)), some (.ref k23), some (.int (Int32.ofInt sp)), some (.int (Int32.ofInt (y : Int))), some (.ref k6), some (.ref k7)], [.ref k6, .int (Int32.ofInt sp)], h3)) rfl ?_
          refine yy_fin.ll rfl (show yI h3 k6 1 from P6.1) ?_
          rw [show Int32.ofNat 1 = Int32.ofInt 1 from rfl]
          refine yy_fin.steps (n := 1) (s' := (1098, [some (.ref 1), some (.ref w), some (.ref 0), some (.int (Int32.ofInt fr)), some (.int (Int32.ofInt (t : Int))), some (.int (Int32.ofInt day)), x6, x7, x8, x9, x10, x11, x12, x13, x14, x15, x16, x17, some (.int (Int32.ofInt i18)), x19, x20, x21, some (.int (Int32.ofInt i22)), some (.ref k23), some (.int (Int32.ofInt sp)), some (.int (Int32.ofInt (y : Int))), some (.ref k6), some (.ref k7)], [.ref k7, .int (Int32.ofInt 1), .int (Int32.ofInt sp)], h3)) rfl ?_
          refine yy_fin.ll rfl (show yI h3 k7 2 from P7.1) ?_
          rw [show Int32.ofNat 2 = Int32.ofInt 2 from rfl]
          refine yy_fin.ic rfl (fun cK => ?_) (fun cK => absurd (by decide) cK)
          refine yy_fin.steps (n := 1) (s' := (1136, [some (.ref 1), some (.ref w), some (.ref 0), some (.int (Int32.ofInt fr)), some (.int (Int32.ofInt (t : Int))), some (.int (Int32.ofInt day)), x6, x7, x8, x9, x10, x11, x12, x13, x14, x15, x16, x17, some (.int (Int32.ofInt i18)), x19, x20, x21, some (.int (Int32.ofInt i22)), some (.ref k23), some (.int (Int32.ofInt sp)), some (.int (Int32.ofInt (y : Int))), some (.ref k6), some (.ref k7)], [.int (Int32.ofInt 0), .int (Int32.ofInt sp)], h3)) rfl ?_
          have ev : (ll_ver (av_t (g0 541) t) (av_c (g0 541) t) i).toInt = 0 := by
            rw [lv0]
            rfl
          rw [show Int32.ofInt 0 = Int32.ofInt ((ll_ver (av_t (g0 541) t) (av_c (g0 541) t) i).toInt) by rw [ev]]
          refine yy_fin.steps (n := 4) (s' := (1020, [some (.ref 1), some (.ref w), some (.ref 0), some (.int (Int32.ofInt fr)), some (.int (Int32.ofInt (t : Int))), some (.int (Int32.ofInt day)), x6, x7, x8, x9, x10, x11, x12, x13, x14, x15, x16, x17, some (.int (Int32.ofInt i18)), x19, x20, x21, some (.int (Int32.ofInt i22)), some (.ref k23), some (.int ((Int32.ofInt sp) + (Int32.ofInt ((ll_ver (av_t (g0 541) t) (av_c (g0 541) t) i).toInt)))), some (.int ((Int32.ofInt (y : Int)) + (Int32.ofInt 1))), some (.ref k6), some (.ref k7)], [], h3)) rfl ?_
          rw [yi_add sp ((ll_ver (av_t (g0 541) t) (av_c (g0 541) t) i).toInt)]
          rw [yi_add (y : Int) 1]
          rw [show (y : Int) + 1 = ((y + 1 : Nat) : Int) by omega]
          have em : (av_c (g0 541) t) - i = ((av_c (g0 541) t) - (i + 1)) + 1 := by omega
          rw [em, fd_i_c] at eS
          refine yl_ls F ht hR hc2 kk n (y + 1) _ (i + 1) _ _ _ _ _ (by omega) (by omega) (fun j hj => ?_) (fun j hj hjc => ?_) eS C Y (by omega) (by omega)
          · rcases Nat.lt_or_eq_of_le (Nat.le_of_lt_succ hj) with z | z
            · have := hlo j z
              omega
            · rw [z]
              omega
          · have := tw_lt ok (show i < j by omega) hjc
            omega
      · rw [if_neg w1] at P7 lv0
        by_cases w2 : (av_t (g0 541) t) 4 i = -1
        · rw [if_pos w2] at P6
          have w3 := n4i.2.2.2 w2
          refine yy_fin.steps (n := 2) (s' := (1095, [some (.ref 1), some (.ref w), some (.ref 0), some (.int (Int32.ofInt fr)), some (.int (Int32.ofInt (t : Int))), some (.int (Int32.ofInt day)), x6, x7, x8, x9, x10, x11, x12, x13, x14, x15, x16, x17, some (.int (Int32.ofInt i18)), x19, x20, x21, some (.int (Int32.ofInt i22)), some (.ref k23), some (.int (Int32.ofInt sp)), some (.int (Int32.ofInt (y : Int))), some (.ref k6), some (.ref k7)], [.ref k6, .int (Int32.ofInt sp)], h3)) rfl ?_
          refine yy_fin.ll rfl (show yI h3 k6 2 from P6.1) ?_
          rw [show Int32.ofNat 2 = Int32.ofInt 2 from rfl]
          refine yy_fin.steps (n := 1) (s' := (1098, [some (.ref 1), some (.ref w), some (.ref 0), some (.int (Int32.ofInt fr)), some (.int (Int32.ofInt (t : Int))), some (.int (Int32.ofInt day)), x6, x7, x8, x9, x10, x11, x12, x13, x14, x15, x16, x17, some (.int (Int32.ofInt i18)), x19, x20, x21, some (.int (Int32.ofInt i22)), some (.ref k23), some (.int (Int32.ofInt sp)), some (.int (Int32.ofInt (y : Int))), some (.ref k6), some (.ref k7)], [.ref k7, .int (Int32.ofInt 2), .int (Int32.ofInt sp)], h3)) rfl ?_
          refine yy_fin.ll rfl (show yI h3 k7 1 from P7.1) ?_
          rw [show Int32.ofNat 1 = Int32.ofInt 1 from rfl]
          refine yy_fin.ic rfl (fun cK => ?_) (fun cK => absurd (by decide) cK)
          refine yy_fin.steps (n := 1) (s' := (1136, [some (.ref 1), some (.ref w), some (.ref 0), some (.int (Int32.ofInt fr)), some (.int (Int32.ofInt (t : Int))), some (.int (Int32.ofInt day)), x6, x7, x8, x9, x10, x11, x12, x13, x14, x15, x16, x17, some (.int (Int32.ofInt i18)), x19, x20, x21, some (.int (Int32.ofInt i22)), some (.ref k23), some (.int (Int32.ofInt sp)), some (.int (Int32.ofInt (y : Int))), some (.ref k6), some (.ref k7)], [.int (Int32.ofInt 0), .int (Int32.ofInt sp)], h3)) rfl ?_
          have ev : (ll_ver (av_t (g0 541) t) (av_c (g0 541) t) i).toInt = 0 := by
            rw [lv0, if_neg (by omega)]
            rfl
          rw [show Int32.ofInt 0 = Int32.ofInt ((ll_ver (av_t (g0 541) t) (av_c (g0 541) t) i).toInt) by rw [ev]]
          refine yy_fin.steps (n := 4) (s' := (1020, [some (.ref 1), some (.ref w), some (.ref 0), some (.int (Int32.ofInt fr)), some (.int (Int32.ofInt (t : Int))), some (.int (Int32.ofInt day)), x6, x7, x8, x9, x10, x11, x12, x13, x14, x15, x16, x17, some (.int (Int32.ofInt i18)), x19, x20, x21, some (.int (Int32.ofInt i22)), some (.ref k23), some (.int ((Int32.ofInt sp) + (Int32.ofInt ((ll_ver (av_t (g0 541) t) (av_c (g0 541) t) i).toInt)))), some (.int ((Int32.ofInt (y : Int)) + (Int32.ofInt 1))), some (.ref k6), some (.ref k7)], [], h3)) rfl ?_
          rw [yi_add sp ((ll_ver (av_t (g0 541) t) (av_c (g0 541) t) i).toInt)]
          rw [yi_add (y : Int) 1]
          rw [show (y : Int) + 1 = ((y + 1 : Nat) : Int) by omega]
          have em : (av_c (g0 541) t) - i = ((av_c (g0 541) t) - (i + 1)) + 1 := by omega
          rw [em, fd_i_c] at eS
          refine yl_ls F ht hR hc2 kk n (y + 1) _ (i + 1) _ _ _ _ _ (by omega) (by omega) (fun j hj => ?_) (fun j hj hjc => ?_) eS C Y (by omega) (by omega)
          · rcases Nat.lt_or_eq_of_le (Nat.le_of_lt_succ hj) with z | z
            · have := hlo j z
              omega
            · rw [z]
              omega
          · have := tw_lt ok (show i < j by omega) hjc
            omega
        · rw [if_neg w2] at P6
          refine yy_fin.steps (n := 2) (s' := (1095, [some (.ref 1), some (.ref w), some (.ref 0), some (.int (Int32.ofInt fr)), some (.int (Int32.ofInt (t : Int))), some (.int (Int32.ofInt day)), x6, x7, x8, x9, x10, x11, x12, x13, x14, x15, x16, x17, some (.int (Int32.ofInt i18)), x19, x20, x21, some (.int (Int32.ofInt i22)), some (.ref k23), some (.int (Int32.ofInt sp)), some (.int (Int32.ofInt (y : Int))), some (.ref k6), some (.ref k7)], [.ref k6, .int (Int32.ofInt sp)], h3)) rfl ?_
          refine yy_fin.ll rfl (show yI h3 k6 1 from P6.1) ?_
          rw [show Int32.ofNat 1 = Int32.ofInt 1 from rfl]
          refine yy_fin.steps (n := 1) (s' := (1098, [some (.ref 1), some (.ref w), some (.ref 0), some (.int (Int32.ofInt fr)), some (.int (Int32.ofInt (t : Int))), some (.int (Int32.ofInt day)), x6, x7, x8, x9, x10, x11, x12, x13, x14, x15, x16, x17, some (.int (Int32.ofInt i18)), x19, x20, x21, some (.int (Int32.ofInt i22)), some (.ref k23), some (.int (Int32.ofInt sp)), some (.int (Int32.ofInt (y : Int))), some (.ref k6), some (.ref k7)], [.ref k7, .int (Int32.ofInt 1), .int (Int32.ofInt sp)], h3)) rfl ?_
          refine yy_fin.ll rfl (show yI h3 k7 1 from P7.1) ?_
          rw [show Int32.ofNat 1 = Int32.ofInt 1 from rfl]
          refine yy_fin.ic rfl (fun cK => absurd cK (by decide)) (fun cK => ?_)
          refine yy_fin.steps (n := 2) (s' := (1105, [some (.ref 1), some (.ref w), some (.ref 0), some (.int (Int32.ofInt fr)), some (.int (Int32.ofInt (t : Int))), some (.int (Int32.ofInt day)), x6, x7, x8, x9, x10, x11, x12, x13, x14, x15, x16, x17, some (.int (Int32.ofInt i18)), x19, x20, x21, some (.int (Int32.ofInt i22)), some (.ref k23), some (.int (Int32.ofInt sp)), some (.int (Int32.ofInt (y : Int))), some (.ref k6), some (.ref k7)], [.int (Int32.ofInt 0), .ref k6, .int (Int32.ofInt sp)], h3)) rfl ?_
          refine yy_fin.lp (j := 0) rfl P6 rfl (by decide) rfl ?_
          refine yy_fin.steps (n := 2) (s' := (1109, [some (.ref 1), some (.ref w), some (.ref 0), some (.int (Int32.ofInt fr)), some (.int (Int32.ofInt (t : Int))), some (.int (Int32.ofInt day)), x6, x7, x8, x9, x10, x11, x12, x13, x14, x15, x16, x17, some (.int (Int32.ofInt i18)), x19, x20, x21, some (.int (Int32.ofInt i22)), some (.ref k23), some (.int (Int32.ofInt sp)), some (.int (Int32.ofInt (y : Int))), some (.ref k6), some (.ref k7)], [.int (Int32.ofInt 0), .ref k7, .int (Int32.ofInt ((av_t (g0 541) t) 4 i)), .int (Int32.ofInt sp)], h3)) rfl ?_
          refine yy_fin.lp (j := 0) rfl P7 rfl (by decide) rfl ?_
          refine yy_fin.ic rfl (fun c103 => ?_) (fun c103 => ?_)
          · have c103 := (yi_c_ne (a := (av_t (g0 541) t) 4 i) (b := PP) (by omega) (by omega)).mp c103
            refine yy_fin.steps (n := 1) (s' := (1136, [some (.ref 1), some (.ref w), some (.ref 0), some (.int (Int32.ofInt fr)), some (.int (Int32.ofInt (t : Int))), some (.int (Int32.ofInt day)), x6, x7, x8, x9, x10, x11, x12, x13, x14, x15, x16, x17, some (.int (Int32.ofInt i18)), x19, x20, x21, some (.int (Int32.ofInt i22)), some (.ref k23), some (.int (Int32.ofInt sp)), some (.int (Int32.ofInt (y : Int))), some (.ref k6), some (.ref k7)], [.int (Int32.ofInt 0), .int (Int32.ofInt sp)], h3)) rfl ?_
            have ev : (ll_ver (av_t (g0 541) t) (av_c (g0 541) t) i).toInt = 0 := by
              rw [lv0, if_neg (by omega)]
              rfl
            rw [show Int32.ofInt 0 = Int32.ofInt ((ll_ver (av_t (g0 541) t) (av_c (g0 541) t) i).toInt) by rw [ev]]
            refine yy_fin.steps (n := 4) (s' := (1020, [some (.ref 1), some (.ref w), some (.ref 0), some (.int (Int32.ofInt fr)), some (.int (Int32.ofInt (t : Int))), some (.int (Int32.ofInt day)), x6, x7, x8, x9, x10, x11, x12, x13, x14, x15, x16, x17, some (.int (Int32.ofInt i18)), x19, x20, x21, some (.int (Int32.ofInt i22)), some (.ref k23), some (.int ((Int32.ofInt sp) + (Int32.ofInt ((ll_ver (av_t (g0 541) t) (av_c (g0 541) t) i).toInt)))), some (.int ((Int32.ofInt (y : Int)) + (Int32.ofInt 1))), some (.ref k6), some (.ref k7)], [], h3)) rfl ?_
            rw [yi_add sp ((ll_ver (av_t (g0 541) t) (av_c (g0 541) t) i).toInt)]
            rw [yi_add (y : Int) 1]
            rw [show (y : Int) + 1 = ((y + 1 : Nat) : Int) by omega]
            have em : (av_c (g0 541) t) - i = ((av_c (g0 541) t) - (i + 1)) + 1 := by omega
            rw [em, fd_i_c] at eS
            refine yl_ls F ht hR hc2 kk n (y + 1) _ (i + 1) _ _ _ _ _ (by omega) (by omega) (fun j hj => ?_) (fun j hj hjc => ?_) eS C Y (by omega) (by omega)
            · rcases Nat.lt_or_eq_of_le (Nat.le_of_lt_succ hj) with z | z
              · have := hlo j z
                omega
              · rw [z]
                omega
            · have := tw_lt ok (show i < j by omega) hjc
              omega
          · have c103 := mt (yi_c_ne (a := (av_t (g0 541) t) 4 i) (b := PP) (by omega) (by omega)).mpr c103
            refine yy_fin.steps (n := 1) (s' := (1115, [some (.ref 1), some (.ref w), some (.ref 0), some (.int (Int32.ofInt fr)), some (.int (Int32.ofInt (t : Int))), some (.int (Int32.ofInt day)), x6, x7, x8, x9, x10, x11, x12, x13, x14, x15, x16, x17, some (.int (Int32.ofInt i18)), x19, x20, x21, some (.int (Int32.ofInt i22)), some (.ref k23), some (.int (Int32.ofInt sp)), some (.int (Int32.ofInt (y : Int))), some (.ref k6), some (.ref k7)], [.ref k6, .int (Int32.ofInt sp)], h3)) rfl ?_
            refine yy_fin.ll rfl (show yI h3 k6 1 from P6.1) ?_
            rw [show Int32.ofNat 1 = Int32.ofInt 1 from rfl]
            refine yy_fin.steps (n := 1) (s' := (1117, [some (.ref 1), some (.ref w), some (.ref 0), some (.int (Int32.ofInt fr)), some (.int (Int32.ofInt (t : Int))), some (.int (Int32.ofInt day)), x6, x7, x8, x9, x10, x11, x12, x13, x14, x15, x16, x17, some (.int (Int32.ofInt i18)), x19, x20, x21, some (.int (Int32.ofInt i22)), some (.ref k23), some (.int (Int32.ofInt sp)), some (.int (Int32.ofInt (y : Int))), some (.ref k6), some (.ref k7)], [.int (Int32.ofInt 1), .int (Int32.ofInt 1), .int (Int32.ofInt sp)], h3)) rfl ?_
            refine yy_fin.ic rfl (fun cK => ?_) (fun cK => absurd (by decide) cK)
            refine yy_fin.steps (n := 2) (s' := (1136, [some (.ref 1), some (.ref w), some (.ref 0), some (.int (Int32.ofInt fr)), some (.int (Int32.ofInt (t : Int))), some (.int (Int32.ofInt day)), x6, x7, x8, x9, x10, x11, x12, x13, x14, x15, x16, x17, some (.int (Int32.ofInt i18)), x19, x20, x21, some (.int (Int32.ofInt i22)), some (.ref k23), some (.int (Int32.ofInt sp)), some (.int (Int32.ofInt (y : Int))), some (.ref k6), some (.ref k7)], [.int (Int32.ofInt 1), .int (Int32.ofInt sp)], h3)) rfl ?_
            have ev : (ll_ver (av_t (g0 541) t) (av_c (g0 541) t) i).toInt = 1 := by
              rw [lv0, if_pos (by omega)]
              rfl
            rw [show Int32.ofInt 1 = Int32.ofInt ((ll_ver (av_t (g0 541) t) (av_c (g0 541) t) i).toInt) by rw [ev]]
            refine yy_fin.steps (n := 4) (s' := (1020, [some (.ref 1), some (.ref w), some (.ref 0), some (.int (Int32.ofInt fr)), some (.int (Int32.ofInt (t : Int))), some (.int (Int32.ofInt day)), x6, x7, x8, x9, x10, x11, x12, x13, x14, x15, x16, x17, some (.int (Int32.ofInt i18)), x19, x20, x21, some (.int (Int32.ofInt i22)), some (.ref k23), some (.int ((Int32.ofInt sp) + (Int32.ofInt ((ll_ver (av_t (g0 541) t) (av_c (g0 541) t) i).toInt)))), some (.int ((Int32.ofInt (y : Int)) + (Int32.ofInt 1))), some (.ref k6), some (.ref k7)], [], h3)) rfl ?_
            rw [yi_add sp ((ll_ver (av_t (g0 541) t) (av_c (g0 541) t) i).toInt)]
            rw [yi_add (y : Int) 1]
            rw [show (y : Int) + 1 = ((y + 1 : Nat) : Int) by omega]
            have em : (av_c (g0 541) t) - i = ((av_c (g0 541) t) - (i + 1)) + 1 := by omega
            rw [em, fd_i_c] at eS
            refine yl_ls F ht hR hc2 kk n (y + 1) _ (i + 1) _ _ _ _ _ (by omega) (by omega) (fun j hj => ?_) (fun j hj hjc => ?_) eS C Y (by omega) (by omega)
            · rcases Nat.lt_or_eq_of_le (Nat.le_of_lt_succ hj) with z | z
              · have := hlo j z
                omega
              · rw [z]
                omega
            · have := tw_lt ok (show i < j by omega) hjc
              omega
    · have nt : ∀ j, j < (av_c (g0 541) t) → (av_t (g0 541) t) 1 j ≠ (y : Int) := fun j hj z => by
        rcases Nat.lt_or_ge j i with q8 | q8
        · have := hlo j q8
          omega
        · rcases Nat.lt_or_eq_of_le q8 with q9 | q9
          · have := tw_lt ok q9 hj
            have := hhi i (Nat.le_refl i) (by omega)
            omega
          · subst q9
            exact hp ⟨hj, z⟩
      have en : rq[y]? = some none := (r3 y (by omega)).2 nt
      refine yy_fin.ar rfl r1 (by decide) (yi_inb (a := (y : Int)) (by omega) (by omega) (by omega)) ((yi_cl (a := (y : Int)) (by omega)).trans (Int.toNat_natCast y)) en ?_
      refine yy_fin.steps (n := 6) (s' := (1020, [some (.ref 1), some (.ref w), some (.ref 0), some (.int (Int32.ofInt fr)), some (.int (Int32.ofInt (t : Int))), some (.int (Int32.ofInt day)), x6, x7, x8, x9, x10, x11, x12, x13, x14, x15, x16, x17, some (.int (Int32.ofInt i18)), x19, x20, x21, some (.int (Int32.ofInt i22)), some (.ref k23), some (.int (Int32.ofInt sp)), some (.int ((Int32.ofInt (y : Int)) + (Int32.ofInt 1))), some (.null), x27], [], h)) rfl ?_
      rw [yi_add (y : Int) 1]
      rw [show (y : Int) + 1 = ((y + 1 : Nat) : Int) by omega]
      refine yl_ls F ht hR hc2 kk n (y + 1) _ i _ _ _ _ _ (by omega) hi (fun j hj => ?_) (fun j hj hjc => ?_) eS C Y (by omega) (by omega)
      · have := hlo j hj
        omega
      · have h8 := hhi j hj hjc
        have h7 := nt j hjc
        omega
theorem yl_lt (F : yCf own w lst g0) (ht : (t : Int) < (g0 541 0).toInt) {a e k23 : Nat} {i18 i22 : Int} {x6 x7 x8 x9 x10 x11 x12 x13 x14 x15 x16 x17 x19 x20 x21 x24 x25 x26 x27 : Option Value} (C : yCx own w lst g0 h g) (Y : yx (yAk w) a e h0 h) (hR : h0.1.1 + a + 500 < yy_B) (kk : ∀ h' x25 x26 x27, yCx own w lst g0 h' g → yx (yAk w) (a + 360) (e + 720) h0 h' → yy_fin X 298 (1145, [some (.ref 1), some (.ref w), some (.ref 0), some (.int (Int32.ofInt fr)), some (.int (Int32.ofInt (t : Int))), some (.int (Int32.ofInt day)), x6, x7, x8, x9, x10, x11, x12, x13, x14, x15, x16, x17, some (.int (Int32.ofInt i18)), x19, x20, x21, some (.int (Int32.ofInt i22)), some (.ref k23), some (.int (Int32.ofInt (s_129 (g0 541) t))), x25, x26, x27], [], h') φ) : yy_fin X 298 (1014, [some (.ref 1), some (.ref w), some (.ref 0), some (.int (Int32.ofInt fr)), some (.int (Int32.ofInt (t : Int))), some (.int (Int32.ofInt day)), x6, x7, x8, x9, x10, x11, x12, x13, x14, x15, x16, x17, some (.int (Int32.ofInt i18)), x19, x20, x21, some (.int (Int32.ofInt i22)), some (.ref k23), x24, x25, x26, x27], [], h) φ := by
  have n4 := F.2.2.2.1
  have hq := F.2.2.2.2.1
  have hY := Y.1
  have hg := C.2.1.2
  have l8 := F.2.2.1.2.1
  have ok := (F.2.2.2.2.2 t ht).2
  have c12 := ok.1
  have n3 := ok.2.1
  refine yy_fin.steps (n := 4) (s' := (1020, [some (.ref 1), some (.ref w), some (.ref 0), some (.int (Int32.ofInt fr)), some (.int (Int32.ofInt (t : Int))), some (.int (Int32.ofInt day)), x6, x7, x8, x9, x10, x11, x12, x13, x14, x15, x16, x17, some (.int (Int32.ofInt i18)), x19, x20, x21, some (.int (Int32.ofInt i22)), some (.ref k23), some (.int (Int32.ofInt 0)), some (.int (Int32.ofInt 0)), x26, x27], [], h)) rfl ?_
  by_cases hc : (av_c (g0 541) t) ≤ 1
  · have e0 : s_129 (g0 541) t = 0 := if_pos hc
    rw [e0] at kk
    obtain ⟨fw, o1⟩ := C.ow
    refine yy_fin.steps (n := 2) (s' := (1025, [some (.ref 1), some (.ref w), some (.ref 0), some (.int (Int32.ofInt fr)), some (.int (Int32.ofInt (t : Int))), some (.int (Int32.ofInt day)), x6, x7, x8, x9, x10, x11, x12, x13, x14, x15, x16, x17, some (.int (Int32.ofInt i18)), x19, x20, x21, some (.int (Int32.ofInt i22)), some (.ref k23), some (.int (Int32.ofInt 0)), some (.int (Int32.ofInt 0)), x26, x27], [.int (Int32.ofInt 360), .int (Int32.ofInt 0)], h)) rfl ?_
    refine yy_fin.ic rfl (fun cK => absurd cK (by decide)) (fun cK => ?_)
    refine yy_fin.steps (n := 2) (s' := (1031, [some (.ref 1), some (.ref w), some (.ref 0), some (.int (Int32.ofInt fr)), some (.int (Int32.ofInt (t : Int))), some (.int (Int32.ofInt day)), x6, x7, x8, x9, x10, x11, x12, x13, x14, x15, x16, x17, some (.int (Int32.ofInt i18)), x19, x20, x21, some (.int (Int32.ofInt i22)), some (.ref k23), some (.int (Int32.ofInt 0)), some (.int (Int32.ofInt 0)), x26, x27], [.int (Int32.ofInt (t : Int)), .ref w], h)) rfl ?_
    refine yy_fin.cv (as := [.int (Int32.ofInt (t : Int))]) rfl rfl rfl o1 (Nat.le_of_ble_eq_true rfl) (Nat.le_of_ble_eq_true rfl) (yw_many (C.tb F ht) ok) ?_
    rintro v h9 ⟨rfl, e9⟩
    obtain rfl := e9.symm
    refine yy_fin.steps (n := 1) (s' := (1035, [some (.ref 1), some (.ref w), some (.ref 0), some (.int (Int32.ofInt fr)), some (.int (Int32.ofInt (t : Int))), some (.int (Int32.ofInt day)), x6, x7, x8, x9, x10, x11, x12, x13, x14, x15, x16, x17, some (.int (Int32.ofInt i18)), x19, x20, x21, some (.int (Int32.ofInt i22)), some (.ref k23), some (.int (Int32.ofInt 0)), some (.int (Int32.ofInt 0)), x26, x27], [.int (Int32.ofInt 1), .int (Int32.ofInt ((av_c (g0 541) t) : Int))], h)) rfl ?_
    refine yy_fin.ic rfl (fun cq => ?_) (fun cq => absurd ((yi_c_le (a := ((av_c (g0 541) t) : Int)) (b := 1) (by omega) (by omega)).mpr (by omega)) cq)
    have cq := (yi_c_le (a := ((av_c (g0 541) t) : Int)) (b := 1) (by omega) (by omega)).mp cq
    exact kk _ _ _ _ C (Y.le (by omega) (by omega))
  · exact yl_ls F ht (A := a + 360) (E := e + 720) (SP := s_129 (g0 541) t) (y_rm hR (by decide)) (by omega) kk 360 0 _ 0 0 _ _ _ _ (by omega) (by omega) (fun j hj => absurd hj (Nat.not_lt_zero j)) (fun j _ hj => by have := n3 j hj; omega) (by unfold s_129; rw [if_neg hc, Nat.sub_zero]) C Y (by omega) (by omega)
end YD19
