/-! W: when a bell rings (printed by wip/p54/w4.py) -/
theorem ev_H_h (E : ev_E) (a : Bool) (L : List fl_T) {t : fl_T} (r : List fl_T) (h : fl_h t.1 = true ∨ t.1 = 0) : ev_H E a L (t :: r) = ev_H E a L r := by
  have k : t.1 ≠ 124 ∧ pd_ot t.1 = false ∧ fl_j t.1 = false := by
    rcases h with h | h
    · rcases y_fh.mp h with (e | e) | e | e <;> (rw [e]; decide)
    · rw [h]
      decide
  conv => lhs; unfold ev_H
  rw [if_neg (fun z => k.1 z.1), k.2.1, k.2.2, if_neg Bool.false_ne_true, if_neg Bool.false_ne_true, decide_eq_false k.1, Bool.or_false]
theorem ev_H_S (E : ev_E) (a : Bool) (L : List fl_T) : ∀ r : List fl_T, ev_H E a L (y_dS r) = ev_H E a L r
  | [] => rfl
  | t :: r => by
    rw [y_dS_c]
    by_cases c : fl_h t.1 = true
    · rw [if_pos c, ev_H_S E a L r, ev_H_h E a L r (Or.inl c)]
    · rw [if_neg c]
theorem ev_H_c (E : ev_E) (a : Bool) (L : List fl_T) {t : fl_T} (r : List fl_T) (h : pd_ot t.1 = true) : ev_H E a L (t :: r) = ev_H E (a && ev_cmp (ev_sum E L) t.1 (ev_sum E (t :: r))) L r := by
  have k : t.1 ≠ 124 ∧ fl_j t.1 = false := by
    unfold pd_ot at h
    rw [Bool.or_eq_true, Bool.or_eq_true, decide_eq_true_eq, decide_eq_true_eq, decide_eq_true_eq] at h
    rcases h with e | e | e <;> (rw [e]; decide)
  conv => lhs; unfold ev_H
  rw [if_neg (fun z => k.1 z.1), h, k.2, if_pos rfl, if_neg Bool.false_ne_true, decide_eq_false k.1, Bool.or_false]
theorem ev_H_38 (E : ev_E) (a : Bool) (L : List fl_T) {t : fl_T} (r : List fl_T) (h : t.1 = 38) : ev_H E a L (t :: r) = ev_H E a (t :: r) r := by
  have k : t.1 ≠ 124 ∧ pd_ot t.1 = false ∧ fl_j t.1 = true := by rw [h]; decide
  conv => lhs; unfold ev_H
  rw [if_neg (fun z => k.1 z.1), k.2.1, k.2.2, if_neg Bool.false_ne_true, if_pos rfl, decide_eq_false k.1, Bool.or_false]
theorem ev_H_124 (E : ev_E) (a : Bool) (L : List fl_T) {t : fl_T} (r : List fl_T) (h : t.1 = 124) : ev_H E a L (t :: r) = if a = true then true else ev_H E true (t :: r) r := by
  have k : pd_ot t.1 = false ∧ fl_j t.1 = true := by rw [h]; decide
  conv => lhs; unfold ev_H
  rw [k.1, k.2, if_neg Bool.false_ne_true, if_pos rfl, decide_eq_true h, Bool.or_true]
  cases a with
  | true => rw [if_pos ⟨h, rfl⟩, if_pos rfl]
  | false => rw [if_neg (fun z => Bool.false_ne_true z.2), if_neg Bool.false_ne_true]
theorem y_ev1 (E : ev_E) {t tc : fl_T} {r0 rc : List fl_T} (h0 : t.1 = 0) (e1 : y_t1 t r0 tc rc) (g0 : y_dS rc = []) : ev_H E true (t :: r0) (t :: r0) = y_V E t r0 tc rc := by
  rw [ev_H_h E true _ r0 (Or.inr h0), ← ev_H_S, e1.1, ev_H_c E true _ rc e1.2, ← ev_H_S, g0, Bool.true_and]
  rfl
theorem y_ev2 (E : ev_E) {t tc t2 td : fl_T} {r0 rc r2 rd : List fl_T} (h0 : t.1 = 0) (e1 : y_t1 t r0 tc rc) (g1 : y_dS rc = t2 :: r2) (g3 : y_t1 t2 r2 td rd) (g4 : y_dS rd = []) : (t2.1 = 38 → ev_H E true (t :: r0) (t :: r0) = (y_V E t r0 tc rc && y_V E t2 r2 td rd)) ∧ (t2.1 = 124 → ev_H E true (t :: r0) (t :: r0) = (y_V E t r0 tc rc || y_V E t2 r2 td rd)) := by
  have e0 : ev_H E true (t :: r0) (t :: r0) = ev_H E (y_V E t r0 tc rc) (t :: r0) (t2 :: r2) := by
    rw [ev_H_h E true _ r0 (Or.inr h0), ← ev_H_S, e1.1, ev_H_c E true _ rc e1.2, ← ev_H_S, g1, Bool.true_and]
    rfl
  have e2 : ∀ a, ev_H E a (t2 :: r2) r2 = (a && y_V E t2 r2 td rd) := fun a => by
    rw [← ev_H_S, g3.1, ev_H_c E a _ rd g3.2, ← ev_H_S, g4]
    rfl
  refine ⟨fun h => ?_, fun h => ?_⟩
  · rw [e0, ev_H_38 E _ _ r2 h, e2]
  · rw [e0, ev_H_124 E _ _ r2 h, e2, Bool.true_and]
    cases y_V E t r0 tc rc <;> rfl
/-- the letters of a condition, and what it is written out of -/
def y_cd (l : List Int32) (ts : List fl_T) : Prop := ts.length ≤ 12 ∧ ((ts = [] ∧ l = []) ∨ ∃ t r0 tc rc, ts = t :: r0 ∧ l = y_th t ++ y_rn r0 ∧ t.1 = 0 ∧ y_tok t ∧ y_tks r0 ∧ y_t1 t r0 tc rc ∧ (y_dS rc = [] ∨ ∃ t2 td r2 rd, y_dS rc = t2 :: r2 ∧ (t2.1 = 38 ∨ t2.1 = 124) ∧ y_t1 t2 r2 td rd ∧ y_dS rd = []))
theorem y_th_ne (t : fl_T) : 0 < (y_th t).length := by
  unfold y_th
  split
  · obtain ⟨d, ds, e⟩ := y_fig_dig (n := t.2.2.toInt.toNat)
    rw [e]
    exact Nat.succ_pos _
  · exact Nat.one_pos
section YW4
variable {X : yy_X} {own : yOwn} {h : zz_H} {w o p b k v a t : Nat} {l : List Int32} {tn dy lg pr : Int32} {T : Nat → Nat → Int} {c : Nat}
theorem yw_cond {ts : List fl_T} (C : yCs h w o p b k v l tn dy lg pr 0) (hc : y_cd l ts) (hl : 0 < l.length) (hB0 : h.1.1 + 300 < yy_B) (hz : zz_Zr h) : yy_fin X 290 (0, zz_in [.ref w] (zz_nl 290), [], h) (fun r h' => r = some (.int (if ev_H (dy - dy / 7 * 7, (dy - dy / 360 * 360, (lg, (tn, dy)))) true ts ts = true then 1 else 0)) ∧ yx (fun q => q = w) 12 60 h h' ∧ ∃ a2, yCs h' w o p b k v l tn dy lg pr a2) := by
  obtain ⟨h12, ⟨-, rfl⟩ | ⟨t, r0, tc, rc, rfl, rfl, h0, ht, hr, e1, hs⟩⟩ := hc
  · exact absurd hl (Nat.lt_irrefl _)
  rw [List.length_cons] at h12
  have e : (y_th t ++ y_rn r0).drop 0 = y_th t ++ y_rn r0 := List.drop_zero
  rcases hs with g0 | ⟨t2, td, r2, rd, g1, g2, g3, g4⟩
  · rw [y_ev1 _ h0 e1 g0]
    exact (yw_condA C (by omega) hz ht hr e e1 g0).mono fun r h' z => ⟨z.1, z.2.1.le (by omega) (by omega), z.2.2⟩
  · have q := y_ev2 (dy - dy / 7 * 7, (dy - dy / 360 * 360, (lg, (tn, dy)))) h0 e1 g1 g3 g4
    rcases g2 with g2 | g2
    · rw [q.1 g2]
      exact (yw_condB C (by omega) hz ht hr e e1 g1 g2 g3 g4).mono fun r h' z => ⟨z.1, z.2.1.le (by omega) (by omega), z.2.2⟩
    · rw [q.2 g2]
      exact (yw_condC C (by omega) hz ht hr e e1 g1 g2 g3 g4).mono fun r h' z => ⟨z.1, z.2.1.le (by omega) (by omega), z.2.2⟩
/-- when bell B (its condition's tokens ts) rings in its half of day d, from that day's midnight; -1 -/
def yRg (q : Int) (T : Nat → Nat → Int) (c : Nat) (B : yBell) (ts : List fl_T) (t d : Int) : Int := match tw_H T c d B.1 with
  | none => -1
  | some (b, l) => if q ≤ B.2.2.1 then -1 else if ev_H (Int32.ofInt d - Int32.ofInt d / 7 * 7, (Int32.ofInt d - Int32.ofInt d / 360 * 360, (Int32.ofInt l, (Int32.ofInt t, Int32.ofInt d)))) true ts ts = true then (if yk q (B.2.1 * q + B.2.2.1) l < l then b + yk q (B.2.1 * q + B.2.2.1) l else -1) else -1
/-- W as it is asked for rings: all but the reader's fields -/
def yWr (own : yOwn) (h : zz_H) (w o p b : Nat) (q : Int) : Prop := own w = w ∧ ∃ tx, yO h w 12 [some (some o), some (some p), some (some b), none, some tx, none, none, none, none] ∧ h.2.2 w 3 = Int32.ofInt q
/-- all of a town's that hangs on w's first fields alone -/
def yTc (own : yOwn) (h : zz_H) (p t : Nat) (T : Nat → Nat → Int) (c : Nat) : Prop := ∃ q rs rq, (own p = 0 ∧ yR h p 6 rs) ∧ rs[t]? = some (some q) ∧ rs.length ≤ 4 ∧ t < rs.length ∧ (own q ≠ 0 ∧ yR h q 5 rq) ∧ rq.length = 360 ∧ ∀ y : Int, 0 ≤ y → y < 360 → (∀ i, i < c → T 1 i = y → ∃ k, rq[y.toNat]? = some (some k) ∧ own k = 0 ∧ yP h k (tw_row T i)) ∧ ((∀ i, i < c → T 1 i ≠ y) → rq[y.toNat]? = some none)
theorem yTc.tb {q : Int} (Z : yTc own h p t T c) (W : yWr own h w o p b q) : yTb own h w t T c := by
  obtain ⟨q, rs, rq, ⟨-, a1⟩, a2, a3, a4, ⟨-, a5⟩, a6, a7⟩ := Z
  obtain ⟨-, tx, o1, -⟩ := W
  exact ⟨o, p, b, tx, q, rs, rq, o1, a1, a2, a3, a4, a5, a6, a7⟩
theorem yTc.x {a d : Nat} {h' : zz_H} (Z : yTc own h p t T c) {w : Nat} (W : ∃ fs, yO h w 12 fs) (hw : own w ≠ 0) (x : yx (fun q => q = w) a d h h') : yTc own h' p t T c := by
  obtain ⟨q, rs, rq, ⟨b1, a1⟩, a2, a3, a4, ⟨b5, a5⟩, a6, a7⟩ := Z
  obtain ⟨fs, oW⟩ := W
  have n1 : p ≠ w := fun e => hw (e ▸ b1)
  have n2 : q ≠ w := fun e => by
    subst e
    have h1 := (zz_obj_ok oW.2.2).2
    have h2 := (zz_rar_ok a5.2.2).2
    rw [h1] at h2
    cases h2
  refine ⟨q, rs, rq, ⟨b1, a1.x x n1⟩, a2, a3, a4, ⟨b5, a5.x x n2⟩, a6, fun y h1 h2 => ⟨fun i hi e => ?_, (a7 y h1 h2).2⟩⟩
  obtain ⟨k, e1, e2, e3⟩ := (a7 y h1 h2).1 i hi e
  exact ⟨k, e1, e2, e3.x x (fun z => hw (z ▸ e2))⟩
theorem yWr.wp {q : Int} (W : yWr own h w o p b q) : yWp h w q := by
  obtain ⟨-, tx, o1, o2⟩ := W
  exact ⟨o, p, b, tx, o1, o2⟩
theorem yWr.f {q : Int} {a d : Nat} {h' : zz_H} (W : yWr own h w o p b q) (x : yx yF a d h h') : yWr own h' w o p b q := by
  obtain ⟨b0, tx, o1, o2⟩ := W
  exact ⟨b0, tx, o1.x x id, (o1.i x id 3).trans o2⟩
theorem yBl.n {B : yBell} {a d : Nat} {h' : zz_H} (o : yBl own h k B) (hw : own w ≠ 0) (x : yx (fun q => q = w) a d h h') : yBl own h' k B := o.x x (fun j _ e => by rw [e]; exact hw)
theorem yw_ring2 {q d u l m n : Int} {kh : Nat} {h0 : zz_H} {cc : Nat} (W : yWr own h w o p b q) (hq : 1 ≤ q ∧ q ≤ 3600) (oB : yO h k 11 [none, none, none, none, some (some cc)]) (i1 : h.2.2 k 1 = Int32.ofInt m) (i2 : h.2.2 k 2 = Int32.ofInt n) (oh : yP h kh [Int32.ofInt u, Int32.ofInt (u + l)]) (u0 : 0 ≤ u) (u1 : u ≤ 86399) (l0 : 1 ≤ l) (l1 : l ≤ 172798) (g2 : 0 ≤ m ∧ m ≤ 11) (g3 : 0 ≤ n ∧ n ≤ 10000) {A : Nat → Prop} {e1 e2 : Nat} (y : yx A e1 e2 h0 h) (hBB : h.1.1 + 10 < yy_B) : yy_fin X 289 (85, [some (.ref w), some (.int (Int32.ofInt (t : Int))), some (.int (Int32.ofInt d)), some (.ref k), some (.ref kh), none], [], h) (fun r h' => r = some (.int (Int32.ofInt (if yk q (m * q + n) l < l then u + yk q (m * q + n) l else -1))) ∧ yx A e1 e2 h0 h' ∧ yWr own h' w o p b q) := by
  obtain ⟨ow, tx, oW, eW⟩ := id W
  have hp := yi_pb (a := m) (b := q) (x := 11) (y := 3600) (by omega) (by omega)
  have hp0 : 0 ≤ m * q := Int.mul_nonneg (by omega) (by omega)
  have hk := yk_b (q := q) (n := m * q + n) (l := l) (by omega) (by omega) (by omega)
  refine yy_fin.steps (n := 3) (s' := (89, [some (.ref w), some (.int (Int32.ofInt (t : Int))), some (.int (Int32.ofInt d)), some (.ref k), some (.ref kh), none], [.ref k, .ref kh, .ref w], h)) rfl ?_
  refine yy_fin.fi rfl oB rfl i1 ?_
  refine yy_fin.steps (n := 1) (s' := (93, [some (.ref w), some (.int (Int32.ofInt (t : Int))), some (.int (Int32.ofInt d)), some (.ref k), some (.ref kh), none], [.ref w, .int (Int32.ofInt m), .ref kh, .ref w], h)) rfl ?_
  refine yy_fin.fi rfl oW rfl eW ?_
  refine yy_fin.steps (n := 2) (s' := (98, [some (.ref w), some (.int (Int32.ofInt (t : Int))), some (.int (Int32.ofInt d)), some (.ref k), some (.ref kh), none], [.ref k, .int ((Int32.ofInt m) * (Int32.ofInt q)), .ref kh, .ref w], h)) rfl ?_
  rw [yi_mul m q]
  refine yy_fin.fi rfl oB rfl i2 ?_
  refine yy_fin.steps (n := 1) (s' := (102, [some (.ref w), some (.int (Int32.ofInt (t : Int))), some (.int (Int32.ofInt d)), some (.ref k), some (.ref kh), none], [.int ((Int32.ofInt (m * q)) + (Int32.ofInt n)), .ref kh, .ref w], h)) rfl ?_
  rw [yi_add (m * q) n]
  refine yy_fin.cv (as := [.ref kh, .int (Int32.ofInt ((m * q) + n))]) rfl rfl rfl oW (Nat.le_of_ble_eq_true rfl) (Nat.le_of_ble_eq_true rfl) (yw_back W.wp hq oh (by omega) (by omega) (n := m * q + n) (by omega)) ?_
  rintro v h9 ⟨rfl, e9⟩
  obtain rfl := e9.symm
  refine yy_fin.steps (n := 4) (s' := (112, [some (.ref w), some (.int (Int32.ofInt (t : Int))), some (.int (Int32.ofInt d)), some (.ref k), some (.ref kh), some (.int (Int32.ofInt (u + yk q (m * q + n) l)))], [.int (Int32.ofInt 1), .ref kh, .int (Int32.ofInt (u + yk q (m * q + n) l))], h)) rfl ?_
  refine yy_fin.lp rfl oh rfl (by decide : (Int32.ofInt 1).toNatClampNeg = 1) rfl ?_
  refine yy_fin.ic rfl (fun k3 => ?_) (fun k3 => ?_)
  · have k3 := (yi_c_ge (a := u + yk q (m * q + n) l) (b := u + l) (by omega) (by omega)).mp k3
    rw [if_neg (c := yk q (m * q + n) l < l) (by omega)]
    refine yy_fin.steps (n := 1) (s' := (122, [some (.ref w), some (.int (Int32.ofInt (t : Int))), some (.int (Int32.ofInt d)), some (.ref k), some (.ref kh), some (.int (Int32.ofInt (u + yk q (m * q + n) l)))], [.int (Int32.ofInt (-1))], h)) rfl ?_
    exact yy_fin.at (n := 1) rfl ⟨rfl, y, W⟩
  · have k3 := mt (yi_c_ge (a := u + yk q (m * q + n) l) (b := u + l) (by omega) (by omega)).mpr k3
    rw [if_pos (c := yk q (m * q + n) l < l) (by omega)]
    refine yy_fin.steps (n := 2) (s' := (122, [some (.ref w), some (.int (Int32.ofInt (t : Int))), some (.int (Int32.ofInt d)), some (.ref k), some (.ref kh), some (.int (Int32.ofInt (u + yk q (m * q + n) l)))], [.int (Int32.ofInt (u + yk q (m * q + n) l))], h)) rfl ?_
    exact yy_fin.at (n := 1) rfl ⟨rfl, y, W⟩
theorem yw_ring {q d : Int} {B : yBell} {ts : List fl_T} (W : yWr own h w o p b q) (hw0 : w ≠ 0) (hq : 1 ≤ q ∧ q ≤ 3600) (Tc : yTc own h p t T c) (ok : tw_ok T c) (hB : yBl own h k B) (hc : y_cd B.2.2.2.2 ts) (g1 : B.1 = 0 ∨ B.1 = 1) (g2 : 0 ≤ B.2.1 ∧ B.2.1 ≤ 11) (g3 : 0 ≤ B.2.2.1 ∧ B.2.2.1 ≤ 10000) (ht4 : t < 4) (hd : -1000000 ≤ d ∧ d ≤ 1000000) (hBB : h.1.1 + 400 < yy_B) (hz : zz_Zr h) : yy_fin X 289 (0, zz_in [.ref w, .int (Int32.ofInt (t : Int)), .int (Int32.ofInt d), .ref k] (zz_nl 289), [], h) (fun r h' => r = some (.int (Int32.ofInt (yRg q T c B ts (t : Int) d))) ∧ yx (fun q => q = w) 15 66 h h' ∧ yWr own h' w o p b q) := by
  obtain ⟨b0, c0, oB, i0, i1, i2, i3, v0, oC, u0, u1⟩ := id hB
  obtain ⟨ow, tx, oW, eW⟩ := id W
  have how : own w ≠ 0 := by rw [ow]; exact hw0
  unfold yRg
  refine yy_fin.steps (n := 4) (s' := (4, [some (.ref w), some (.int (Int32.ofInt (t : Int))), some (.int (Int32.ofInt d)), some (.ref k), none, none], [.ref k, .int (Int32.ofInt d), .int (Int32.ofInt (t : Int)), .ref w], h)) rfl ?_
  refine yy_fin.fi rfl oB rfl i0 ?_
  refine yy_fin.cv (as := [.int (Int32.ofInt (t : Int)), .int (Int32.ofInt d), .int (Int32.ofInt B.1)]) rfl rfl rfl oW (Nat.le_of_ble_eq_true rfl) (Nat.le_of_ble_eq_true rfl) (yw_half (Tc.tb W) ok hd g1 (by omega) hz) ?_
  rintro v9 h1 ⟨x1, r1⟩
  have x1w : yx (fun q => q = w) 3 6 h h1 := x1.wk (fun _ _ e => e.elim) (Nat.le_refl _) (Nat.le_refl _)
  have W1 := W.f x1
  cases eH : tw_H T c d B.1 with
  | none =>
    rw [eH] at r1
    cases r1
    refine yy_fin.steps (n := 4) (s' := (29, [some (.ref w), some (.int (Int32.ofInt (t : Int))), some (.int (Int32.ofInt d)), some (.ref k), some (.null), none], [.int (Int32.ofInt (-1))], h1)) rfl ?_
    exact yy_fin.at (n := 1) rfl ⟨rfl, x1w.le (by decide) (by decide), W1⟩
  | some z =>
    obtain ⟨u, l⟩ := z
    rw [eH] at r1
    obtain ⟨kh, rfl, wh, oh⟩ := r1
    have bd := tw_H_b ok eH
    dsimp only
    have bl : l ≤ 172798 := by
      rcases g1 with g | g
      · have := bd.2.2.2.1 (by omega)
        omega
      · have := bd.2.2.2.2 g
        omega
    have hB1 := hB.n how x1w
    obtain ⟨-, c1, oB1, j0, j1, j2, j3, v1, oC1, u2, u3⟩ := hB1
    obtain ⟨-, tx1, oW1, eW1⟩ := id W1
    have hle1 := x1.1
    refine yy_fin.steps (n := 4) (s' := (18, [some (.ref w), some (.int (Int32.ofInt (t : Int))), some (.int (Int32.ofInt d)), some (.ref k), some (.ref kh), none], [.ref k], h1)) rfl ?_
    refine yy_fin.fi rfl oB1 rfl j2 ?_
    refine yy_fin.steps (n := 1) (s' := (22, [some (.ref w), some (.int (Int32.ofInt (t : Int))), some (.int (Int32.ofInt d)), some (.ref k), some (.ref kh), none], [.ref w, .int (Int32.ofInt B.2.2.1)], h1)) rfl ?_
    refine yy_fin.fi rfl oW1 rfl eW1 ?_
    refine yy_fin.ic rfl (fun k1 => ?_) (fun k1 => ?_)
    · have k1 := (yi_c_lt (a := B.2.2.1) (b := q) (by omega) (by omega)).mp k1
      rw [if_neg (c := q ≤ B.2.2.1) (by omega)]
      refine yy_fin.steps (n := 2) (s' := (32, [some (.ref w), some (.int (Int32.ofInt (t : Int))), some (.int (Int32.ofInt d)), some (.ref k), some (.ref kh), none], [.ref k, .ref w], h1)) rfl ?_
      refine yy_fin.fr rfl oB1 rfl ?_
      refine yy_fin.wr rfl oW1 rfl fun h2 x2 oW2 f2 => ?_
      have e2_3 := (f2 3).trans eW1
      refine yy_fin.steps (n := 2) (s' := (40, [some (.ref w), some (.int (Int32.ofInt (t : Int))), some (.int (Int32.ofInt d)), some (.ref k), some (.ref kh), none], [.int (Int32.ofInt 0), .ref w], h2)) rfl ?_
      refine yy_fin.wi rfl oW2 rfl (Or.inl rfl) fun h3 x3 oW3 e3_5 f3 => ?_
      have e3_3 := (f3 3 (by decide)).trans e2_3
      refine yy_fin.steps (n := 2) (s' := (45, [some (.ref w), some (.int (Int32.ofInt (t : Int))), some (.int (Int32.ofInt d)), some (.ref k), some (.ref kh), none], [.int (Int32.ofInt (t : Int)), .ref w], h3)) rfl ?_
      refine yy_fin.wi rfl oW3 rfl (Or.inl rfl) fun h4 x4 oW4 e4_6 f4 => ?_
      have e4_3 := (f4 3 (by decide)).trans e3_3
      have e4_5 := (f4 5 (by decide)).trans e3_5
      refine yy_fin.steps (n := 2) (s' := (50, [some (.ref w), some (.int (Int32.ofInt (t : Int))), some (.int (Int32.ofInt d)), some (.ref k), some (.ref kh), none], [.int (Int32.ofInt d), .ref w], h4)) rfl ?_
      refine yy_fin.wi rfl oW4 rfl (Or.inl rfl) fun h5 x5 oW5 e5_7 f5 => ?_
      have e5_3 := (f5 3 (by decide)).trans e4_3
      have e5_5 := (f5 5 (by decide)).trans e4_5
      have e5_6 := (f5 6 (by decide)).trans e4_6
      refine yy_fin.steps (n := 3) (s' := (57, [some (.ref w), some (.int (Int32.ofInt (t : Int))), some (.int (Int32.ofInt d)), some (.ref k), some (.ref kh), none], [.int (Int32.ofInt 1), .ref kh, .ref w], h5)) rfl ?_
      have oh5 := oh.x ((((x2.tr x3 (fun _ _ e => e)).tr x4 (fun _ _ e => e)).tr x5 (fun _ _ e => e)).le (Nat.le_refl _) (Nat.le_refl _)) (fun e => by rw [e] at oh; exact absurd (zz_obj_ok oW1.2.2).2 (by rw [(zz_arr_ok oh.1.2.2).2]; exact fun z => nomatch z))
      refine yy_fin.lp rfl oh5 rfl (by decide : (Int32.ofInt 1).toNatClampNeg = 1) rfl ?_
      refine yy_fin.steps (n := 2) (s' := (61, [some (.ref w), some (.int (Int32.ofInt (t : Int))), some (.int (Int32.ofInt d)), some (.ref k), some (.ref kh), none], [.int (Int32.ofInt 0), .ref kh, .int (Int32.ofInt (u + l)), .ref w], h5)) rfl ?_
      refine yy_fin.lp rfl oh5 rfl (by decide : (Int32.ofInt 0).toNatClampNeg = 0) rfl ?_
      refine yy_fin.steps (n := 1) (s' := (63, [some (.ref w), some (.int (Int32.ofInt (t : Int))), some (.int (Int32.ofInt d)), some (.ref k), some (.ref kh), none], [.int (Int32.ofInt (u + l) - Int32.ofInt u), .ref w], h5)) rfl ?_
      rw [yi_sub (u + l) u, show u + l - u = l by omega]
      refine yy_fin.wi rfl oW5 rfl (Or.inl rfl) fun h6 x6 oW6 e6_8 f6 => ?_
      have e6_3 := (f6 3 (by decide)).trans e5_3
      have e6_5 := (f6 5 (by decide)).trans e5_5
      have e6_6 := (f6 6 (by decide)).trans e5_6
      have e6_7 := (f6 7 (by decide)).trans e5_7
      have y6 : yx (fun q => q = w) 3 6 h h6 := (((((x1w.tr x2 (fun _ _ e => e)).tr x3 (fun _ _ e => e)).tr x4 (fun _ _ e => e)).tr x5 (fun _ _ e => e)).tr x6 (fun _ _ e => e)).le (Nat.le_refl _) (Nat.le_refl _)
      have hwc : ∀ q : Nat, own q = 0 → q ≠ w := fun q e z => how (z ▸ e)
      have z26 : yx (fun q => q = w) 0 0 h1 h6 := ((((x2.tr x3 (fun _ _ e => e)).tr x4 (fun _ _ e => e)).tr x5 (fun _ _ e => e)).tr x6 (fun _ _ e => e)).le (Nat.le_refl _) (Nat.le_refl _)
      have oB6 := oB1.x z26 (hwc k b0)
      have j6_1 := (oB1.i z26 (hwc k b0) 1).trans j1
      have j6_2 := (oB1.i z26 (hwc k b0) 2).trans j2
      have oC6 := oC1.z z26 (fun _ => hwc c1 u2) (fun _ => hwc v1 u3)
      have oh6 := oh.x z26 (fun e => by rw [e] at oh; exact absurd (zz_obj_ok oW1.2.2).2 (by rw [(zz_arr_ok oh.1.2.2).2]; exact fun z => nomatch z))
      have C6 : yCs h6 w o p b c1 v1 B.2.2.2.2 (Int32.ofInt (t : Int)) (Int32.ofInt d) (Int32.ofInt l) (Int32.ofInt q) 0 := ⟨oW6, e6_5, e6_6, e6_7, e6_8, e6_3, oC6, Nat.zero_le _⟩
      have W6 : yWr own h6 w o p b q := ⟨ow, _, oW6, e6_3⟩
      have hle6 := y6.1
      refine yy_fin.steps (n := 1) (s' := (67, [some (.ref w), some (.int (Int32.ofInt (t : Int))), some (.int (Int32.ofInt d)), some (.ref k), some (.ref kh), none], [.ref k], h6)) rfl ?_
      refine yy_fin.fr rfl oB6 rfl ?_
      refine yy_fin.ct (as := []) rfl (by decide) rfl rfl oC6 (by omega) (Nat.le_of_ble_eq_true rfl) (Nat.le_of_ble_eq_true rfl) (js_lenZ oC6 (by omega)) ?_
      rintro v h9 ⟨rfl, e9⟩
      obtain rfl := e9.symm
      have hlen := oC6.2.2.1
      refine yy_fin.if rfl (fun k2 => ?_) (fun k2 => ?_)
      · have k2 := (yi_z_le (a := (B.2.2.2.2.length : Int)) (by omega)).mp k2
        have ets : ts = [] := by
          rcases hc.2 with z | ⟨t9, r9, tc9, rc9, z1, z2, -⟩
          · exact z.1
          · have z3 := congrArg List.length z2; have z4 := y_th_ne t9; rw [List.length_append] at z3; omega
        rw [ets]
        rw [if_pos (show ev_H _ true [] [] = true from rfl)]
        have C7 := C6
        have x7 : yx (fun q => q = w) 12 60 h6 h6 := yx.rf.le (Nat.zero_le _) (Nat.zero_le _)
        exact yw_ring2 W6 hq oB6 j6_1 j6_2 oh6 bd.1 bd.2.1 bd.2.2.1 bl g2 g3 (y6.le (by decide) (by decide)) (by omega)
      · have k2 := mt (yi_z_le (a := (B.2.2.2.2.length : Int)) (by omega)).mpr k2
        refine yy_fin.steps (n := 1) (s' := (77, [some (.ref w), some (.int (Int32.ofInt (t : Int))), some (.int (Int32.ofInt d)), some (.ref k), some (.ref kh), none], [.ref w], h6)) rfl ?_
        refine yy_fin.cv (as := []) rfl rfl rfl oW6 (Nat.le_of_ble_eq_true rfl) (Nat.le_of_ble_eq_true rfl) (yw_cond C6 hc (by omega) (by omega) (y6.zr hz)) ?_
        rintro v9 h7 ⟨rfl, x7, a7, C7⟩
        have y7 : yx (fun q => q = w) 15 66 h h7 := (y6.tr x7 (fun _ _ e => e)).le (Nat.le_refl _) (Nat.le_refl _)
        obtain ⟨oW7, -, -, -, -, e7_3, -⟩ := C7
        have W7 : yWr own h7 w o p b q := ⟨ow, _, oW7, e7_3⟩
        by_cases cv : ev_H (Int32.ofInt d - Int32.ofInt d / 7 * 7, (Int32.ofInt d - Int32.ofInt d / 360 * 360, (Int32.ofInt l, (Int32.ofInt (t : Int), Int32.ofInt d)))) true ts ts = true
        · rw [if_pos cv, if_pos cv]
          refine yy_fin.if rfl (fun _ => ?_) (fun c => absurd (by decide) c)
          exact yw_ring2 W7 hq (oB6.x x7 (hwc k b0)) ((oB6.i x7 (hwc k b0) 1).trans j6_1) ((oB6.i x7 (hwc k b0) 2).trans j6_2) (oh6.x x7 (fun e => by rw [e] at oh6; exact absurd (zz_obj_ok oW6.2.2).2 (by rw [(zz_arr_ok oh6.1.2.2).2]; exact fun z => nomatch z))) bd.1 bd.2.1 bd.2.2.1 bl g2 g3 y7 (by have := y7.1; omega)
        · rw [if_neg cv, if_neg cv]
          refine yy_fin.if rfl (fun c => absurd c (by decide)) (fun _ => ?_)
          refine yy_fin.steps (n := 1) (s' := (84, [some (.ref w), some (.int (Int32.ofInt (t : Int))), some (.int (Int32.ofInt d)), some (.ref k), some (.ref kh), none], [.int (Int32.ofInt (-1))], h7)) rfl ?_
          exact yy_fin.at (n := 1) rfl ⟨rfl, y7, W7⟩
    · have k1 := mt (yi_c_lt (a := B.2.2.1) (b := q) (by omega) (by omega)).mpr k1
      rw [if_pos (c := q ≤ B.2.2.1) (by omega)]
      refine yy_fin.steps (n := 1) (s' := (29, [some (.ref w), some (.int (Int32.ofInt (t : Int))), some (.int (Int32.ofInt d)), some (.ref k), some (.ref kh), none], [.int (Int32.ofInt (-1))], h1)) rfl ?_
      exact yy_fin.at (n := 1) rfl ⟨rfl, x1w.le (by decide) (by decide), W1⟩
end YW4
