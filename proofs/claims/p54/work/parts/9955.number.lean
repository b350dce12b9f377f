/-! THE JDK: numbers into figures, texts out of what was built, parts of texts (printed by wip/p54/j3.py) -/
def y_d (m : Nat) : Int32 := Int32.ofNat (48 + m % 10)
def y_sz (n : Nat) : Nat := if n < 10 then 1 else if n < 100 then 2 else if n < 1000 then 3 else if n < 10000 then 4 else 5
def y_dig (n : Nat) : List Int32 := if n < 10 then [y_d n] else if n < 100 then [y_d (n / 10), y_d n] else if n < 1000 then [y_d (n / 100), y_d (n / 10), y_d n] else if n < 10000 then [y_d (n / 1000), y_d (n / 100), y_d (n / 10), y_d n] else [y_d (n / 10000), y_d (n / 1000), y_d (n / 100), y_d (n / 10), y_d n]
def y_num (x : Int32) : List Int32 := if x.toInt < 0 then 45 :: y_dig (-x.toInt).toNat else y_dig x.toInt.toNat
theorem y_dig_len (n : Nat) : (y_dig n).length = y_sz n := by
  unfold y_dig y_sz
  by_cases h1 : n < 10
  · rw [if_pos h1, if_pos h1]; rfl
  rw [if_neg h1, if_neg h1]
  by_cases h2 : n < 100
  · rw [if_pos h2, if_pos h2]; rfl
  rw [if_neg h2, if_neg h2]
  by_cases h3 : n < 1000
  · rw [if_pos h3, if_pos h3]; rfl
  rw [if_neg h3, if_neg h3]
  by_cases h4 : n < 10000
  · rw [if_pos h4, if_pos h4]; rfl
  rw [if_neg h4, if_neg h4]; rfl
theorem y_sz_le (n : Nat) : 1 ≤ y_sz n ∧ y_sz n ≤ 5 := by
  unfold y_sz
  repeat' split
  all_goals omega
theorem y_d_A (m : Nat) : 0 ≤ (y_d m).toInt ∧ (y_d m).toInt ≤ 127 := by
  unfold y_d
  rw [y_nI (by omega)]
  omega
theorem yA_cons {a : Int32} {l : List Int32} (ha : 0 ≤ a.toInt ∧ a.toInt ≤ 127) (hl : yA l) : yA (a :: l) := fun x hx => (List.mem_cons.mp hx).elim (fun e => e ▸ ha) (hl x)
theorem yA_nil : yA [] := fun _ hx => absurd hx List.not_mem_nil
theorem y_dig_A (n : Nat) : yA (y_dig n) := by
  have d := y_d_A
  unfold y_dig
  repeat' split
  · exact yA_cons (d _) yA_nil
  · exact yA_cons (d _) (yA_cons (d _) yA_nil)
  · exact yA_cons (d _) (yA_cons (d _) (yA_cons (d _) yA_nil))
  · exact yA_cons (d _) (yA_cons (d _) (yA_cons (d _) (yA_cons (d _) yA_nil)))
  · exact yA_cons (d _) (yA_cons (d _) (yA_cons (d _) (yA_cons (d _) (yA_cons (d _) yA_nil))))
theorem y_num_A (x : Int32) : yA (y_num x) := by
  unfold y_num
  split
  · exact yA_cons (by decide) (y_dig_A _)
  · exact y_dig_A _
theorem y_num_p {n : Nat} (h : n < 100000) : y_num (Int32.ofNat n) = y_dig n := by
  unfold y_num
  rw [y_nI (by omega), if_neg (by omega), Int.toNat_natCast]
theorem y_negT {n : Nat} (h : n < 100000) : (-Int32.ofNat n).toInt = -(n : Int) := sb_negT (w := n) (by omega)
theorem y_num_n {n : Nat} (h0 : 0 < n) (h : n < 100000) : y_num (-Int32.ofNat n) = 45 :: y_dig n := by
  unfold y_num
  rw [y_negT h, if_pos (by omega), Int.neg_neg, Int.toNat_natCast]
theorem y_num_len (x : Int32) : (y_num x).length ≤ 6 := by
  unfold y_num
  split
  · rw [List.length_cons, y_dig_len]
    have := (y_sz_le (-x.toInt).toNat).2
    omega
  · rw [y_dig_len]
    have := (y_sz_le x.toInt.toNat).2
    omega
theorem y_ones {r : Nat} (h : r < 100) : (yy_by 100)[r]? = some (y_d r) := (show ∀ r : Fin 100, (yy_by 100)[r.val]? = some (y_d r.val) by decide +kernel) ⟨r, h⟩
theorem y_tens {r : Nat} (h : r < 100) : (yy_by 101)[r]? = some (y_d (r / 10)) := (show ∀ r : Fin 100, (yy_by 101)[r.val]? = some (y_d (r.val / 10)) by decide +kernel) ⟨r, h⟩
theorem y_vones {h : zz_H} : yV h 1000200 (yy_by 100) := Or.inr ⟨Nat.le_of_ble_eq_true rfl, rfl⟩
theorem y_vtens {h : zz_H} : yV h 1000201 (yy_by 101) := Or.inr ⟨Nat.le_of_ble_eq_true rfl, rfl⟩
theorem y_lones : (yy_by 100).length = 100 := by decide +kernel
theorem y_ltens : (yy_by 101).length = 100 := by decide +kernel
theorem y_m1 (n : Nat) : Int32.ofNat (n + 1) + (-1) = Int32.ofNat n := sb_m1 (p := n + 1) (Nat.succ_pos n)
theorem y_ndiv {n : Nat} (h : n < 100000) : -Int32.ofNat n / 100 = -Int32.ofNat (n / 100) := sb_ndiv (w := n) (by omega)
theorem y_nrem {n : Nat} (h : n < 100000) : -Int32.ofNat (n / 100) * 100 - -Int32.ofNat n = Int32.ofNat (n % 100) := sb_nrem (w := n) (by omega)
def y_buf (w : List Int32) (p : Nat) (s : List Int32) : List Int32 := w.take p ++ (s ++ w.drop (p + s.length))
theorem y_buf_len {w s : List Int32} {p : Nat} (h : p + s.length ≤ w.length) : (y_buf w p s).length = w.length := by
  unfold y_buf
  simp only [List.length_append, List.length_take, List.length_drop]
  omega
theorem y_buf_nil (w : List Int32) (p : Nat) : y_buf w p [] = w := by
  unfold y_buf
  rw [List.nil_append]
  exact List.take_append_drop p w
theorem y_push {w s : List Int32} {p : Nat} {a : Int32} (h : p + 1 + s.length ≤ w.length) : (y_buf w (p + 1) s).set p a = y_buf w p (a :: s) := by
  have hp : p < w.length := by omega
  unfold y_buf
  rw [← List.take_append_getElem hp, List.append_assoc, List.set_append_right _ _ (by rw [List.length_take]; omega), List.length_take, Nat.min_eq_left (by omega), Nat.sub_self, show p + 1 + s.length = p + (a :: s).length by rw [List.length_cons]; omega]
  rfl
theorem y_cmpL {n : Nat} (k : Nat) {c : Int32} (hc : c.toInt = -(k : Int)) (hn : n < 100000) : -Int32.ofNat n ≤ c ↔ k ≤ n := by
  rw [Int32.le_iff_toInt_le, y_negT hn, hc]
  omega
theorem y_cmpG {n : Nat} (k : Nat) {c : Int32} (hc : c.toInt = -(k : Int)) (hn : n < 100000) : -Int32.ofNat n > c ↔ n < k := by
  show c < -Int32.ofNat n ↔ _
  rw [Int32.lt_iff_toInt_lt, y_negT hn, hc]
  omega
theorem y_cmpE {n : Nat} (k : Nat) {c : Int32} (hc : c.toInt = -(k : Int)) (hn : n < 100000) : -Int32.ofNat n ≥ c ↔ n ≤ k := by
  show c ≤ -Int32.ofNat n ↔ _
  rw [Int32.le_iff_toInt_le, y_negT hn, hc]
  omega
theorem y_nn (n : Nat) : -(-Int32.ofNat n) = Int32.ofNat n := Int32.neg_neg
theorem y_i2b {a : Int32} (ha : 0 ≤ a.toInt ∧ a.toInt ≤ 127) : a.toInt8.toInt32 = a := yy_nbA ha
section YJ3
variable {X : yy_X} {h : zz_H} {k v z s vs : Nat} {l t w : List Int32}
theorem js_szL {n e : Nat} {a2 a3 : Option Value} (hn : n < 100000) : yy_fin X 348 (11, [some (.int (-Int32.ofNat n)), some (.int (Int32.ofNat e)), a2, a3], [], h) (fun r h' => r = some (.int (Int32.ofNat (y_sz n + e))) ∧ h' = h) := by
  refine yy_fin.steps (n := 6) (s' := (19, [some (.int (-Int32.ofNat n)), some (.int (Int32.ofNat e)), some (.int (-10)), some (.int 1)], [.int 10, .int 1], h)) rfl ?_
  refine yy_fin.ic rfl (fun cK => absurd cK (by decide)) (fun cK => ?_)
  refine yy_fin.steps (n := 2) (s' := (24, [some (.int (-Int32.ofNat n)), some (.int (Int32.ofNat e)), some (.int (-10)), some (.int 1)], [.int (-10), .int (-Int32.ofNat n)], h)) rfl ?_
  by_cases h0 : n < 10
  · refine yy_fin.ic rfl (fun c => absurd ((y_cmpL 10 (by decide) hn).mp (of_decide_eq_true c)) (by omega)) (fun c => ?_)
    refine yy_fin.steps (n := 3) (s' := (30, [some (.int (-Int32.ofNat n)), some (.int (Int32.ofNat e)), some (.int (-10)), some (.int 1)], [.int (1 + (Int32.ofNat e))], h)) rfl ?_
    have e9 : y_sz n = 1 := by unfold y_sz; (repeat' split) <;> omega
    rw [e9]
    exact yy_fin.at (n := 1) rfl ⟨congrArg (fun a => some (Value.int a)) (y_ad 1 e), rfl⟩
  refine yy_fin.ic rfl (fun c => ?_) (fun c => absurd (decide_eq_true ((y_cmpL 10 (by decide) hn).mpr (by omega))) c)
  refine yy_fin.steps (n := 5) (s' := (39, [some (.int (-Int32.ofNat n)), some (.int (Int32.ofNat e)), some (.int (10 * (-10))), some (.int (1 + 1))], [], h)) rfl ?_
  rw [show (10 : Int32) * (-10) = -100 by decide, show (1 : Int32) + 1 = 2 by decide]
  refine yy_fin.steps (n := 3) (s' := (19, [some (.int (-Int32.ofNat n)), some (.int (Int32.ofNat e)), some (.int (-100)), some (.int 2)], [.int 10, .int 2], h)) rfl ?_
  refine yy_fin.ic rfl (fun cK => absurd cK (by decide)) (fun cK => ?_)
  refine yy_fin.steps (n := 2) (s' := (24, [some (.int (-Int32.ofNat n)), some (.int (Int32.ofNat e)), some (.int (-100)), some (.int 2)], [.int (-100), .int (-Int32.ofNat n)], h)) rfl ?_
  by_cases h1 : n < 100
  · refine yy_fin.ic rfl (fun c => absurd ((y_cmpL 100 (by decide) hn).mp (of_decide_eq_true c)) (by omega)) (fun c => ?_)
    refine yy_fin.steps (n := 3) (s' := (30, [some (.int (-Int32.ofNat n)), some (.int (Int32.ofNat e)), some (.int (-100)), some (.int 2)], [.int (2 + (Int32.ofNat e))], h)) rfl ?_
    have e9 : y_sz n = 2 := by unfold y_sz; (repeat' split) <;> omega
    rw [e9]
    exact yy_fin.at (n := 1) rfl ⟨congrArg (fun a => some (Value.int a)) (y_ad 2 e), rfl⟩
  refine yy_fin.ic rfl (fun c => ?_) (fun c => absurd (decide_eq_true ((y_cmpL 100 (by decide) hn).mpr (by omega))) c)
  refine yy_fin.steps (n := 5) (s' := (39, [some (.int (-Int32.ofNat n)), some (.int (Int32.ofNat e)), some (.int (10 * (-100))), some (.int (2 + 1))], [], h)) rfl ?_
  rw [show (10 : Int32) * (-100) = -1000 by decide, show (2 : Int32) + 1 = 3 by decide]
  refine yy_fin.steps (n := 3) (s' := (19, [some (.int (-Int32.ofNat n)), some (.int (Int32.ofNat e)), some (.int (-1000)), some (.int 3)], [.int 10, .int 3], h)) rfl ?_
  refine yy_fin.ic rfl (fun cK => absurd cK (by decide)) (fun cK => ?_)
  refine yy_fin.steps (n := 2) (s' := (24, [some (.int (-Int32.ofNat n)), some (.int (Int32.ofNat e)), some (.int (-1000)), some (.int 3)], [.int (-1000), .int (-Int32.ofNat n)], h)) rfl ?_
  by_cases h2 : n < 1000
  · refine yy_fin.ic rfl (fun c => absurd ((y_cmpL 1000 (by decide) hn).mp (of_decide_eq_true c)) (by omega)) (fun c => ?_)
    refine yy_fin.steps (n := 3) (s' := (30, [some (.int (-Int32.ofNat n)), some (.int (Int32.ofNat e)), some (.int (-1000)), some (.int 3)], [.int (3 + (Int32.ofNat e))], h)) rfl ?_
    have e9 : y_sz n = 3 := by unfold y_sz; (repeat' split) <;> omega
    rw [e9]
    exact yy_fin.at (n := 1) rfl ⟨congrArg (fun a => some (Value.int a)) (y_ad 3 e), rfl⟩
  refine yy_fin.ic rfl (fun c => ?_) (fun c => absurd (decide_eq_true ((y_cmpL 1000 (by decide) hn).mpr (by omega))) c)
  refine yy_fin.steps (n := 5) (s' := (39, [some (.int (-Int32.ofNat n)), some (.int (Int32.ofNat e)), some (.int (10 * (-1000))), some (.int (3 + 1))], [], h)) rfl ?_
  rw [show (10 : Int32) * (-1000) = -10000 by decide, show (3 : Int32) + 1 = 4 by decide]
  refine yy_fin.steps (n := 3) (s' := (19, [some (.int (-Int32.ofNat n)), some (.int (Int32.ofNat e)), some (.int (-10000)), some (.int 4)], [.int 10, .int 4], h)) rfl ?_
  refine yy_fin.ic rfl (fun cK => absurd cK (by decide)) (fun cK => ?_)
  refine yy_fin.steps (n := 2) (s' := (24, [some (.int (-Int32.ofNat n)), some (.int (Int32.ofNat e)), some (.int (-10000)), some (.int 4)], [.int (-10000), .int (-Int32.ofNat n)], h)) rfl ?_
  by_cases h3 : n < 10000
  · refine yy_fin.ic rfl (fun c => absurd ((y_cmpL 10000 (by decide) hn).mp (of_decide_eq_true c)) (by omega)) (fun c => ?_)
    refine yy_fin.steps (n := 3) (s' := (30, [some (.int (-Int32.ofNat n)), some (.int (Int32.ofNat e)), some (.int (-10000)), some (.int 4)], [.int (4 + (Int32.ofNat e))], h)) rfl ?_
    have e9 : y_sz n = 4 := by unfold y_sz; (repeat' split) <;> omega
    rw [e9]
    exact yy_fin.at (n := 1) rfl ⟨congrArg (fun a => some (Value.int a)) (y_ad 4 e), rfl⟩
  refine yy_fin.ic rfl (fun c => ?_) (fun c => absurd (decide_eq_true ((y_cmpL 10000 (by decide) hn).mpr (by omega))) c)
  refine yy_fin.steps (n := 5) (s' := (39, [some (.int (-Int32.ofNat n)), some (.int (Int32.ofNat e)), some (.int (10 * (-10000))), some (.int (4 + 1))], [], h)) rfl ?_
  rw [show (10 : Int32) * (-10000) = -100000 by decide, show (4 : Int32) + 1 = 5 by decide]
  refine yy_fin.steps (n := 3) (s' := (19, [some (.int (-Int32.ofNat n)), some (.int (Int32.ofNat e)), some (.int (-100000)), some (.int 5)], [.int 10, .int 5], h)) rfl ?_
  refine yy_fin.ic rfl (fun cK => absurd cK (by decide)) (fun cK => ?_)
  refine yy_fin.steps (n := 2) (s' := (24, [some (.int (-Int32.ofNat n)), some (.int (Int32.ofNat e)), some (.int (-100000)), some (.int 5)], [.int (-100000), .int (-Int32.ofNat n)], h)) rfl ?_
  refine yy_fin.ic rfl (fun c => absurd ((y_cmpL 100000 (by decide) hn).mp (of_decide_eq_true c)) (by omega)) (fun c => ?_)
  refine yy_fin.steps (n := 3) (s' := (30, [some (.int (-Int32.ofNat n)), some (.int (Int32.ofNat e)), some (.int (-100000)), some (.int 5)], [.int (5 + (Int32.ofNat e))], h)) rfl ?_
  have e9 : y_sz n = 5 := by unfold y_sz; (repeat' split) <;> omega
  rw [e9]
  exact yy_fin.at (n := 1) rfl ⟨congrArg (fun a => some (Value.int a)) (y_ad 5 e), rfl⟩
theorem js_szP {n : Nat} (hn : n < 100000) : yy_fin X 348 (0, zz_in [.int (Int32.ofNat n)] (zz_nl 348), [], h) (fun r h' => r = some (.int (Int32.ofNat (y_sz n))) ∧ h' = h) := by
  refine yy_fin.steps (n := 3) (s' := (3, [some (.int (Int32.ofNat n)), some (.int 1), none, none], [.int (Int32.ofNat n)], h)) rfl ?_
  refine yy_fin.if rfl (fun c => absurd (of_decide_eq_true c) (nI_pos (n := n) (by omega))) (fun c => ?_)
  refine yy_fin.steps (n := 5) (s' := (11, [some (.int (-(Int32.ofNat n))), some (.int 0), none, none], [], h)) rfl ?_
  exact js_szL (e := 0) hn
theorem js_szN {n : Nat} (h0 : 0 < n) (hn : n < 100000) : yy_fin X 348 (0, zz_in [.int (-Int32.ofNat n)] (zz_nl 348), [], h) (fun r h' => r = some (.int (Int32.ofNat (y_sz n + 1))) ∧ h' = h) := by
  refine yy_fin.steps (n := 3) (s' := (3, [some (.int (-Int32.ofNat n)), some (.int 1), none, none], [.int (-Int32.ofNat n)], h)) rfl ?_
  refine yy_fin.if rfl (fun c => ?_) (fun c => absurd (decide_eq_true (Int32.lt_iff_toInt_lt.mpr (by rw [y_negT hn, show (0 : Int32).toInt = 0 from rfl]; omega))) c)
  exact js_szL (e := 1) hn
theorem js_gcE {n q : Nat} {f : Int32} {sg s : List Int32} {a0 a1 a3 a4 : Option Value} (h4 : a4 = none ∨ ∃ z, a4 = some (.int z)) (hf : (f = 0 ∧ sg = []) ∨ (f = 1 ∧ sg = [45])) (o : yW h v (y_buf w (q + sg.length) s)) (hw : q + sg.length + s.length ≤ w.length) (hl : w.length < 100000) : yy_fin X 349 (104, [a0, a1, some (.ref v), a3, a4, some (.int (Int32.ofNat (q + sg.length))), some (.int f)], [], h) (fun r h' => r = some (.int (Int32.ofNat q)) ∧ yx (fun a => a = v) 0 0 h h' ∧ yW h' v (y_buf w q (sg ++ s))) := by
  rcases hf with ⟨rfl, rfl⟩ | ⟨rfl, rfl⟩
  · exact (show yy_fin X 349 (104, [a0, a1, some (.ref v), a3, a4, some (.int (Int32.ofNat q)), some (.int 0)], [], h) (fun r h' => r = some (.int (Int32.ofNat q)) ∧ yx (fun a => a = v) 0 0 h h' ∧ yW h' v (y_buf w q ([] ++ s))) from by
      refine yy_fin.steps (n := 1) (s' := (106, [a0, a1, some (.ref v), a3, a4, some (.int (Int32.ofNat q)), some (.int 0)], [.int 0], h)) rfl ?_
      refine yy_fin.if rfl (fun cK => ?_) (fun cK => absurd (by decide) cK)
      refine yy_fin.steps (n := 1) (s' := (120, [a0, a1, some (.ref v), a3, a4, some (.int (Int32.ofNat q)), some (.int 0)], [.int (Int32.ofNat q)], h)) rfl ?_
      exact yy_fin.at (n := 1) rfl ⟨rfl, yx.rf, o⟩)
  · rw [List.length_singleton] at o hw
    show yy_fin X 349 (104, [a0, a1, some (.ref v), a3, a4, some (.int (Int32.ofNat (q + 1))), some (.int 1)], [], h) (fun r h' => r = some (.int (Int32.ofNat q)) ∧ yx (fun a => a = v) 0 0 h h' ∧ yW h' v (y_buf w q ([45] ++ s)))
    rcases h4 with rfl | ⟨z4, rfl⟩
    · refine yy_fin.steps (n := 1) (s' := (106, [a0, a1, some (.ref v), a3, none, some (.int (Int32.ofNat (q + 1))), some (.int 1)], [.int 1], h)) rfl ?_
      refine yy_fin.if rfl (fun cK => absurd cK (by decide)) (fun cK => ?_)
      refine yy_fin.steps (n := 1) (s' := (110, [a0, a1, some (.ref v), a3, none, some (.int (Int32.ofNat (q + 1))), some (.int 1)], [.ref v], h)) rfl ?_
      refine yy_fin.steps (n := 1) (s' := (113, [a0, a1, some (.ref v), a3, none, some (.int (Int32.ofNat (q + 1) + (-1))), some (.int 1)], [.ref v], h)) rfl ?_
      rw [y_m1]
      refine yy_fin.steps (n := 2) (s' := (117, [a0, a1, some (.ref v), a3, none, some (.int (Int32.ofNat q)), some (.int 1)], [.int 45, .int (Int32.ofNat q), .ref v], h)) rfl ?_
      refine yy_fin.swb rfl o (y_inb (by rw [y_buf_len (by omega)]; omega) (by rw [y_buf_len (by omega)]; omega)) (y_cl (by omega)) (by decide) fun h1 x1 q1 => ?_
      rw [y_push (by omega)] at q1
      refine yy_fin.steps (n := 1) (s' := (120, [a0, a1, some (.ref v), a3, none, some (.int (Int32.ofNat q)), some (.int 1)], [.int (Int32.ofNat q)], h1)) rfl ?_
      exact yy_fin.at (n := 1) rfl ⟨rfl, x1, q1⟩
    · refine yy_fin.steps (n := 1) (s' := (106, [a0, a1, some (.ref v), a3, some (.int z4), some (.int (Int32.ofNat (q + 1))), some (.int 1)], [.int 1], h)) rfl ?_
      refine yy_fin.if rfl (fun cK => absurd cK (by decide)) (fun cK => ?_)
      refine yy_fin.steps (n := 1) (s' := (110, [a0, a1, some (.ref v), a3, some (.int z4), some (.int (Int32.ofNat (q + 1))), some (.int 1)], [.ref v], h)) rfl ?_
      refine yy_fin.steps (n := 1) (s' := (113, [a0, a1, some (.ref v), a3, some (.int z4), some (.int (Int32.ofNat (q + 1) + (-1))), some (.int 1)], [.ref v], h)) rfl ?_
      rw [y_m1]
      refine yy_fin.steps (n := 2) (s' := (117, [a0, a1, some (.ref v), a3, some (.int z4), some (.int (Int32.ofNat q)), some (.int 1)], [.int 45, .int (Int32.ofNat q), .ref v], h)) rfl ?_
      refine yy_fin.swb rfl o (y_inb (by rw [y_buf_len (by omega)]; omega) (by rw [y_buf_len (by omega)]; omega)) (y_cl (by omega)) (by decide) fun h1 x1 q1 => ?_
      rw [y_push (by omega)] at q1
      refine yy_fin.steps (n := 1) (s' := (120, [a0, a1, some (.ref v), a3, some (.int z4), some (.int (Int32.ofNat q)), some (.int 1)], [.int (Int32.ofNat q)], h1)) rfl ?_
      exact yy_fin.at (n := 1) rfl ⟨rfl, x1, q1⟩
theorem js_gcT1 {n q : Nat} {f : Int32} {sg s : List Int32} {a1 a3 a4 : Option Value} (h4 : a4 = none ∨ ∃ z, a4 = some (.int z)) (hn : n < 10) (hf : (f = 0 ∧ sg = []) ∨ (f = 1 ∧ sg = [45])) (hB : h.1.1 < yy_B) (o : yW h v (y_buf w (q + sg.length + 1) s)) (hw : q + sg.length + 1 + s.length ≤ w.length) (hl : w.length < 100000) : yy_fin X 349 (22, [some (.int (-Int32.ofNat n)), a1, some (.ref v), a3, a4, some (.int (Int32.ofNat (q + sg.length + 1))), some (.int f)], [], h) (fun r h' => r = some (.int (Int32.ofNat q)) ∧ yx (fun a => a = v) 0 0 h h' ∧ yW h' v (y_buf w q (sg ++ (y_d n :: s)))) := by
  rcases h4 with rfl | ⟨z4, rfl⟩
  · refine yy_fin.steps (n := 2) (s' := (25, [some (.int (-Int32.ofNat n)), a1, some (.ref v), a3, none, some (.int (Int32.ofNat (q + sg.length + 1))), some (.int f)], [.int (-100), .int (-Int32.ofNat n)], h)) rfl ?_
    refine yy_fin.ic rfl (fun c => ?_) (fun c => absurd (decide_eq_true ((y_cmpG 100 (by decide) (by omega)).mpr (by omega))) c)
    refine yy_fin.steps (n := 1) (s' := (73, [some (.int (-Int32.ofNat n)), a1, some (.ref v), a3, none, some (.int (Int32.ofNat (q + sg.length + 1))), some (.int f)], [.ref v], h)) rfl ?_
    refine yy_fin.steps (n := 1) (s' := (76, [some (.int (-Int32.ofNat n)), a1, some (.ref v), a3, none, some (.int (Int32.ofNat (q + sg.length + 1) + (-1))), some (.int f)], [.ref v], h)) rfl ?_
    rw [y_m1]
    refine yy_fin.steps (n := 4) (s' := (83, [some (.int (-Int32.ofNat n)), a1, some (.ref v), a3, none, some (.int (Int32.ofNat (q + sg.length))), some (.int f)], [.int (-(-Int32.ofNat n)), .ref 1000200, .int (Int32.ofNat (q + sg.length)), .ref v], h)) rfl ?_
    rw [y_nn]
    refine yy_fin.vb rfl y_vones hB (y_inb (by rw [y_lones]; omega) (by rw [y_lones]; omega)) (y_cl (by omega)) (y_ones (by omega)) ?_
    refine yy_fin.swb rfl o (y_inb (by rw [y_buf_len (by omega)]; omega) (by rw [y_buf_len (by omega)]; omega)) (y_cl (by omega)) (y_d_A _) fun h1 x1 q1 => ?_
    rw [y_push (by omega)] at q1
    refine yy_fin.steps (n := 2) (s' := (88, [some (.int (-Int32.ofNat n)), a1, some (.ref v), a3, none, some (.int (Int32.ofNat (q + sg.length))), some (.int f)], [.int (-9), .int (-Int32.ofNat n)], h1)) rfl ?_
    refine yy_fin.ic rfl (fun c => ?_) (fun c => absurd (decide_eq_true ((y_cmpE 9 (by decide) (by omega)).mpr (by omega))) c)
    exact (js_gcE (n := n) (Or.inl rfl) hf q1 (by rw [List.length_cons]; omega) hl).mono fun r h' e => ⟨e.1, (x1.tr e.2.1 (fun _ _ e => e)).le (Nat.le_refl _) (Nat.le_refl _), e.2.2⟩
  · refine yy_fin.steps (n := 2) (s' := (25, [some (.int (-Int32.ofNat n)), a1, some (.ref v), a3, some (.int z4), some (.int (Int32.ofNat (q + sg.length + 1))), some (.int f)], [.int (-100), .int (-Int32.ofNat n)], h)) rfl ?_
    refine yy_fin.ic rfl (fun c => ?_) (fun c => absurd (decide_eq_true ((y_cmpG 100 (by decide) (by omega)).mpr (by omega))) c)
    refine yy_fin.steps (n := 1) (s' := (73, [some (.int (-Int32.ofNat n)), a1, some (.ref v), a3, some (.int z4), some (.int (Int32.ofNat (q + sg.length + 1))), some (.int f)], [.ref v], h)) rfl ?_
    refine yy_fin.steps (n := 1) (s' := (76, [some (.int (-Int32.ofNat n)), a1, some (.ref v), a3, some (.int z4), some (.int (Int32.ofNat (q + sg.length + 1) + (-1))), some (.int f)], [.ref v], h)) rfl ?_
    rw [y_m1]
    refine yy_fin.steps (n := 4) (s' := (83, [some (.int (-Int32.ofNat n)), a1, some (.ref v), a3, some (.int z4), some (.int (Int32.ofNat (q + sg.length))), some (.int f)], [.int (-(-Int32.ofNat n)), .ref 1000200, .int (Int32.ofNat (q + sg.length)), .ref v], h)) rfl ?_
    rw [y_nn]
    refine yy_fin.vb rfl y_vones hB (y_inb (by rw [y_lones]; omega) (by rw [y_lones]; omega)) (y_cl (by omega)) (y_ones (by omega)) ?_
    refine yy_fin.swb rfl o (y_inb (by rw [y_buf_len (by omega)]; omega) (by rw [y_buf_len (by omega)]; omega)) (y_cl (by omega)) (y_d_A _) fun h1 x1 q1 => ?_
    rw [y_push (by omega)] at q1
    refine yy_fin.steps (n := 2) (s' := (88, [some (.int (-Int32.ofNat n)), a1, some (.ref v), a3, some (.int z4), some (.int (Int32.ofNat (q + sg.length))), some (.int f)], [.int (-9), .int (-Int32.ofNat n)], h1)) rfl ?_
    refine yy_fin.ic rfl (fun c => ?_) (fun c => absurd (decide_eq_true ((y_cmpE 9 (by decide) (by omega)).mpr (by omega))) c)
    exact (js_gcE (n := n) (Or.inr ⟨_, rfl⟩) hf q1 (by rw [List.length_cons]; omega) hl).mono fun r h' e => ⟨e.1, (x1.tr e.2.1 (fun _ _ e => e)).le (Nat.le_refl _) (Nat.le_refl _), e.2.2⟩
theorem js_gcT2 {n q : Nat} {f : Int32} {sg s : List Int32} {a1 a3 a4 : Option Value} (h4 : a4 = none ∨ ∃ z, a4 = some (.int z)) (hn1 : 10 ≤ n) (hn : n < 100) (hf : (f = 0 ∧ sg = []) ∨ (f = 1 ∧ sg = [45])) (hB : h.1.1 < yy_B) (o : yW h v (y_buf w (q + sg.length + 2) s)) (hw : q + sg.length + 2 + s.length ≤ w.length) (hl : w.length < 100000) : yy_fin X 349 (22, [some (.int (-Int32.ofNat n)), a1, some (.ref v), a3, a4, some (.int (Int32.ofNat (q + sg.length + 2))), some (.int f)], [], h) (fun r h' => r = some (.int (Int32.ofNat q)) ∧ yx (fun a => a = v) 0 0 h h' ∧ yW h' v (y_buf w q (sg ++ (y_d (n / 10) :: y_d n :: s)))) := by
  rcases h4 with rfl | ⟨z4, rfl⟩
  · refine yy_fin.steps (n := 2) (s' := (25, [some (.int (-Int32.ofNat n)), a1, some (.ref v), a3, none, some (.int (Int32.ofNat (q + sg.length + 2))), some (.int f)], [.int (-100), .int (-Int32.ofNat n)], h)) rfl ?_
    refine yy_fin.ic rfl (fun c => ?_) (fun c => absurd (decide_eq_true ((y_cmpG 100 (by decide) (by omega)).mpr (by omega))) c)
    refine yy_fin.steps (n := 1) (s' := (73, [some (.int (-Int32.ofNat n)), a1, some (.ref v), a3, none, some (.int (Int32.ofNat (q + sg.length + 2))), some (.int f)], [.ref v], h)) rfl ?_
    refine yy_fin.steps (n := 1) (s' := (76, [some (.int (-Int32.ofNat n)), a1, some (.ref v), a3, none, some (.int (Int32.ofNat (q + sg.length + 2) + (-1))), some (.int f)], [.ref v], h)) rfl ?_
    rw [y_m1]
    refine yy_fin.steps (n := 4) (s' := (83, [some (.int (-Int32.ofNat n)), a1, some (.ref v), a3, none, some (.int (Int32.ofNat (q + sg.length + 1))), some (.int f)], [.int (-(-Int32.ofNat n)), .ref 1000200, .int (Int32.ofNat (q + sg.length + 1)), .ref v], h)) rfl ?_
    rw [y_nn]
    refine yy_fin.vb rfl y_vones hB (y_inb (by rw [y_lones]; omega) (by rw [y_lones]; omega)) (y_cl (by omega)) (y_ones (by omega)) ?_
    refine yy_fin.swb rfl o (y_inb (by rw [y_buf_len (by omega)]; omega) (by rw [y_buf_len (by omega)]; omega)) (y_cl (by omega)) (y_d_A _) fun h1 x1 q1 => ?_
    rw [y_push (by omega)] at q1
    refine yy_fin.steps (n := 2) (s' := (88, [some (.int (-Int32.ofNat n)), a1, some (.ref v), a3, none, some (.int (Int32.ofNat (q + sg.length + 1))), some (.int f)], [.int (-9), .int (-Int32.ofNat n)], h1)) rfl ?_
    refine yy_fin.ic rfl (fun c => absurd ((y_cmpE 9 (by decide) (by omega)).mp (of_decide_eq_true c)) (by omega)) (fun c => ?_)
    refine yy_fin.steps (n := 1) (s' := (92, [some (.int (-Int32.ofNat n)), a1, some (.ref v), a3, none, some (.int (Int32.ofNat (q + sg.length + 1))), some (.int f)], [.ref v], h1)) rfl ?_
    have hB1 : h1.1.1 < yy_B := by have := x1.1; omega
    refine yy_fin.steps (n := 1) (s' := (95, [some (.int (-Int32.ofNat n)), a1, some (.ref v), a3, none, some (.int (Int32.ofNat (q + sg.length + 1) + (-1))), some (.int f)], [.ref v], h1)) rfl ?_
    rw [y_m1]
    refine yy_fin.steps (n := 4) (s' := (102, [some (.int (-Int32.ofNat n)), a1, some (.ref v), a3, none, some (.int (Int32.ofNat (q + sg.length))), some (.int f)], [.int (-(-Int32.ofNat n)), .ref 1000201, .int (Int32.ofNat (q + sg.length)), .ref v], h1)) rfl ?_
    rw [y_nn]
    refine yy_fin.vb rfl y_vtens hB1 (y_inb (by rw [y_ltens]; omega) (by rw [y_ltens]; omega)) (y_cl (by omega)) (y_tens (by omega)) ?_
    refine yy_fin.swb rfl q1 (y_inb (by rw [y_buf_len (by rw [List.length_cons]; omega)]; omega) (by rw [y_buf_len (by rw [List.length_cons]; omega)]; omega)) (y_cl (by omega)) (y_d_A _) fun h2 x2 q2 => ?_
    rw [y_push (by rw [List.length_cons]; omega)] at q2
    exact (js_gcE (n := n) (Or.inl rfl) hf q2 (by rw [List.length_cons, List.length_cons]; omega) hl).mono fun r h' e => ⟨e.1, ((x1.tr x2 (fun _ _ e => e)).tr e.2.1 (fun _ _ e => e)).le (Nat.le_refl _) (Nat.le_refl _), e.2.2⟩
  · refine yy_fin.steps (n := 2) (s' := (25, [some (.int (-Int32.ofNat n)), a1, some (.ref v), a3, some (.int z4), some (.int (Int32.ofNat (q + sg.length + 2))), some (.int f)], [.int (-100), .int (-Int32.ofNat n)], h)) rfl ?_
    refine yy_fin.ic rfl (fun c => ?_) (fun c => absurd (decide_eq_true ((y_cmpG 100 (by decide) (by omega)).mpr (by omega))) c)
    refine yy_fin.steps (n := 1) (s' := (73, [some (.int (-Int32.ofNat n)), a1, some (.ref v), a3, some (.int z4), some (.int (Int32.ofNat (q + sg.length + 2))), some (.int f)], [.ref v], h)) rfl ?_
    refine yy_fin.steps (n := 1) (s' := (76, [some (.int (-Int32.ofNat n)), a1, some (.ref v), a3, some (.int z4), some (.int (Int32.ofNat (q + sg.length + 2) + (-1))), some (.int f)], [.ref v], h)) rfl ?_
    rw [y_m1]
    refine yy_fin.steps (n := 4) (s' := (83, [some (.int (-Int32.ofNat n)), a1, some (.ref v), a3, some (.int z4), some (.int (Int32.ofNat (q + sg.length + 1))), some (.int f)], [.int (-(-Int32.ofNat n)), .ref 1000200, .int (Int32.ofNat (q + sg.length + 1)), .ref v], h)) rfl ?_
    rw [y_nn]
    refine yy_fin.vb rfl y_vones hB (y_inb (by rw [y_lones]; omega) (by rw [y_lones]; omega)) (y_cl (by omega)) (y_ones (by omega)) ?_
    refine yy_fin.swb rfl o (y_inb (by rw [y_buf_len (by omega)]; omega) (by rw [y_buf_len (by omega)]; omega)) (y_cl (by omega)) (y_d_A _) fun h1 x1 q1 => ?_
    rw [y_push (by omega)] at q1
    refine yy_fin.steps (n := 2) (s' := (88, [some (.int (-Int32.ofNat n)), a1, some (.ref v), a3, some (.int z4), some (.int (Int32.ofNat (q + sg.length + 1))), some (.int f)], [.int (-9), .int (-Int32.ofNat n)], h1)) rfl ?_
    refine yy_fin.ic rfl (fun c => absurd ((y_cmpE 9 (by decide) (by omega)).mp (of_decide_eq_true c)) (by omega)) (fun c => ?_)
    refine yy_fin.steps (n := 1) (s' := (92, [some (.int (-Int32.ofNat n)), a1, some (.ref v), a3, some (.int z4), some (.int (Int32.ofNat (q + sg.length + 1))), some (.int f)], [.ref v], h1)) rfl ?_
    have hB1 : h1.1.1 < yy_B := by have := x1.1; omega
    refine yy_fin.steps (n := 1) (s' := (95, [some (.int (-Int32.ofNat n)), a1, some (.ref v), a3, some (.int z4), some (.int (Int32.ofNat (q + sg.length + 1) + (-1))), some (.int f)], [.ref v], h1)) rfl ?_
    rw [y_m1]
    refine yy_fin.steps (n := 4) (s' := (102, [some (.int (-Int32.ofNat n)), a1, some (.ref v), a3, some (.int z4), some (.int (Int32.ofNat (q + sg.length))), some (.int f)], [.int (-(-Int32.ofNat n)), .ref 1000201, .int (Int32.ofNat (q + sg.length)), .ref v], h1)) rfl ?_
    rw [y_nn]
    refine yy_fin.vb rfl y_vtens hB1 (y_inb (by rw [y_ltens]; omega) (by rw [y_ltens]; omega)) (y_cl (by omega)) (y_tens (by omega)) ?_
    refine yy_fin.swb rfl q1 (y_inb (by rw [y_buf_len (by rw [List.length_cons]; omega)]; omega) (by rw [y_buf_len (by rw [List.length_cons]; omega)]; omega)) (y_cl (by omega)) (y_d_A _) fun h2 x2 q2 => ?_
    rw [y_push (by rw [List.length_cons]; omega)] at q2
    exact (js_gcE (n := n) (Or.inr ⟨_, rfl⟩) hf q2 (by rw [List.length_cons, List.length_cons]; omega) hl).mono fun r h' e => ⟨e.1, ((x1.tr x2 (fun _ _ e => e)).tr e.2.1 (fun _ _ e => e)).le (Nat.le_refl _) (Nat.le_refl _), e.2.2⟩
theorem js_gcL {n p : Nat} {f : Int32} {s : List Int32} {a1 a3 a4 : Option Value} {φ : Option Value → zz_H → Prop} (hn1 : 100 ≤ n) (hn : n < 100000) (hB : h.1.1 < yy_B) (o : yW h v (y_buf w (p + 2) s)) (hw : p + 2 + s.length ≤ w.length) (hl : w.length < 100000) (kk : ∀ h2, yx (fun a => a = v) 0 0 h h2 → yW h2 v (y_buf w p (y_d (n / 10) :: y_d n :: s)) → yy_fin X 349 (22, [some (.int (-Int32.ofNat (n / 100))), a1, some (.ref v), some (.int (-Int32.ofNat (n / 100))), some (.int (Int32.ofNat (n % 100))), some (.int (Int32.ofNat p)), some (.int f)], [], h2) φ) : yy_fin X 349 (22, [some (.int (-Int32.ofNat n)), a1, some (.ref v), a3, a4, some (.int (Int32.ofNat (p + 2))), some (.int f)], [], h) φ := by
  refine yy_fin.steps (n := 2) (s' := (25, [some (.int (-Int32.ofNat n)), a1, some (.ref v), a3, a4, some (.int (Int32.ofNat (p + 2))), some (.int f)], [.int (-100), .int (-Int32.ofNat n)], h)) rfl ?_
  refine yy_fin.ic rfl (fun c => absurd ((y_cmpG 100 (by decide) (by omega)).mp (of_decide_eq_true c)) (by omega)) (fun c => ?_)
  refine yy_fin.steps (n := 2) (s' := (31, [some (.int (-Int32.ofNat n)), a1, some (.ref v), a3, a4, some (.int (Int32.ofNat (p + 2))), some (.int f)], [.int 100, .int (-Int32.ofNat n)], h)) rfl ?_
  refine yy_fin.dv rfl (by decide) ?_
  rw [y_ndiv (by omega)]
  refine yy_fin.steps (n := 5) (s' := (38, [some (.int (-Int32.ofNat n)), a1, some (.ref v), some (.int (-Int32.ofNat (n / 100))), a4, some (.int (Int32.ofNat (p + 2))), some (.int f)], [.int (-Int32.ofNat n), .int ((-Int32.ofNat (n / 100)) * 100)], h)) rfl ?_
  refine yy_fin.steps (n := 1) (s' := (39, [some (.int (-Int32.ofNat n)), a1, some (.ref v), some (.int (-Int32.ofNat (n / 100))), a4, some (.int (Int32.ofNat (p + 2))), some (.int f)], [.int (-Int32.ofNat (n / 100) * 100 - -Int32.ofNat n)], h)) rfl ?_
  rw [y_nrem (by omega)]
  refine yy_fin.steps (n := 4) (s' := (44, [some (.int (-Int32.ofNat (n / 100))), a1, some (.ref v), some (.int (-Int32.ofNat (n / 100))), some (.int (Int32.ofNat (n % 100))), some (.int (Int32.ofNat (p + 2))), some (.int f)], [.ref v], h)) rfl ?_
  refine yy_fin.steps (n := 1) (s' := (47, [some (.int (-Int32.ofNat (n / 100))), a1, some (.ref v), some (.int (-Int32.ofNat (n / 100))), some (.int (Int32.ofNat (n % 100))), some (.int (Int32.ofNat (p + 2) + (-1))), some (.int f)], [.ref v], h)) rfl ?_
  rw [y_m1]
  refine yy_fin.steps (n := 3) (s' := (54, [some (.int (-Int32.ofNat (n / 100))), a1, some (.ref v), some (.int (-Int32.ofNat (n / 100))), some (.int (Int32.ofNat (n % 100))), some (.int (Int32.ofNat (p + 1))), some (.int f)], [.int (Int32.ofNat (n % 100)), .ref 1000200, .int (Int32.ofNat (p + 1)), .ref v], h)) rfl ?_
  refine yy_fin.vb rfl y_vones hB (y_inb (by rw [y_lones]; omega) (by rw [y_lones]; omega)) (y_cl (by omega)) (y_ones (by omega)) ?_
  refine yy_fin.swb rfl o (y_inb (by rw [y_buf_len (by omega)]; omega) (by rw [y_buf_len (by omega)]; omega)) (y_cl (by omega)) (y_d_A _) fun h1 x1 q1 => ?_
  rw [y_push (by omega), show y_d (n % 100) = y_d n from congrArg Int32.ofNat (by omega)] at q1
  have hB1 : h1.1.1 < yy_B := by have := x1.1; omega
  refine yy_fin.steps (n := 1) (s' := (57, [some (.int (-Int32.ofNat (n / 100))), a1, some (.ref v), some (.int (-Int32.ofNat (n / 100))), some (.int (Int32.ofNat (n % 100))), some (.int (Int32.ofNat (p + 1))), some (.int f)], [.ref v], h1)) rfl ?_
  refine yy_fin.steps (n := 1) (s' := (60, [some (.int (-Int32.ofNat (n / 100))), a1, some (.ref v), some (.int (-Int32.ofNat (n / 100))), some (.int (Int32.ofNat (n % 100))), some (.int (Int32.ofNat (p + 1) + (-1))), some (.int f)], [.ref v], h1)) rfl ?_
  rw [y_m1]
  refine yy_fin.steps (n := 3) (s' := (67, [some (.int (-Int32.ofNat (n / 100))), a1, some (.ref v), some (.int (-Int32.ofNat (n / 100))), some (.int (Int32.ofNat (n % 100))), some (.int (Int32.ofNat p)), some (.int f)], [.int (Int32.ofNat (n % 100)), .ref 1000201, .int (Int32.ofNat p), .ref v], h1)) rfl ?_
  refine yy_fin.vb rfl y_vtens hB1 (y_inb (by rw [y_ltens]; omega) (by rw [y_ltens]; omega)) (y_cl (by omega)) (y_tens (by omega)) ?_
  refine yy_fin.swb rfl q1 (y_inb (by rw [y_buf_len (by rw [List.length_cons]; omega)]; omega) (by rw [y_buf_len (by rw [List.length_cons]; omega)]; omega)) (y_cl (by omega)) (y_d_A _) fun h2 x2 q2 => ?_
  rw [y_push (by rw [List.length_cons]; omega), show y_d (n % 100 / 10) = y_d (n / 10) from congrArg Int32.ofNat (by omega)] at q2
  refine yy_fin.steps (n := 1) (s' := (22, [some (.int (-Int32.ofNat (n / 100))), a1, some (.ref v), some (.int (-Int32.ofNat (n / 100))), some (.int (Int32.ofNat (n % 100))), some (.int (Int32.ofNat p)), some (.int f)], [], h2)) rfl ?_
  exact kk h2 ((x1.tr x2 (fun _ _ e => e)).le (Nat.le_refl _) (Nat.le_refl _)) q2
theorem js_gcM {n q : Nat} {f : Int32} {sg : List Int32} {a1 a3 a4 : Option Value} (h4 : a4 = none ∨ ∃ z, a4 = some (.int z)) (hn : n < 100000) (hf : (f = 0 ∧ sg = []) ∨ (f = 1 ∧ sg = [45])) (hB : h.1.1 < yy_B) (o : yW h v w) (hw : q + sg.length + y_sz n ≤ w.length) (hl : w.length < 100000) : yy_fin X 349 (22, [some (.int (-Int32.ofNat n)), a1, some (.ref v), a3, a4, some (.int (Int32.ofNat (q + sg.length + y_sz n))), some (.int f)], [], h) (fun r h' => r = some (.int (Int32.ofNat q)) ∧ yx (fun a => a = v) 0 0 h h' ∧ yW h' v (y_buf w q (sg ++ y_dig n))) := by
  have o1 := o
  rw [← y_buf_nil w (q + sg.length + y_sz n)] at o1
  by_cases h1 : n < 10
  · have e1 : y_sz n = 1 := by unfold y_sz; rw [if_pos h1]
    have e2 : y_dig n = [y_d n] := by unfold y_dig; rw [if_pos h1]
    rw [e1] at o1 hw ⊢
    rw [e2]
    exact js_gcT1 h4 h1 hf hB o1 hw hl
  by_cases h2 : n < 100
  · have e1 : y_sz n = 2 := by unfold y_sz; rw [if_neg h1, if_pos h2]
    have e2 : y_dig n = [y_d (n / 10), y_d n] := by unfold y_dig; rw [if_neg h1, if_pos h2]
    rw [e1] at o1 hw ⊢
    rw [e2]
    exact js_gcT2 h4 (by omega) h2 hf hB o1 hw hl
  by_cases h3 : n < 1000
  · have e1 : y_sz n = 3 := by unfold y_sz; rw [if_neg h1, if_neg h2, if_pos h3]
    have e2 : y_dig n = [y_d (n / 100), y_d (n / 10), y_d n] := by unfold y_dig; rw [if_neg h1, if_neg h2, if_pos h3]
    rw [e1] at o1 hw ⊢
    rw [e2]
    refine js_gcL (p := q + sg.length + 1) (by omega) hn hB o1 hw hl fun k1 x1 p1 => ?_
    exact (js_gcT1 (Or.inr ⟨_, rfl⟩) (by omega) hf (by have := x1.1; omega) p1 hw hl).mono fun r h' e => ⟨e.1, (x1.tr e.2.1 (fun _ _ e => e)).le (Nat.le_refl _) (Nat.le_refl _), e.2.2⟩
  by_cases h4b : n < 10000
  · have e1 : y_sz n = 4 := by unfold y_sz; rw [if_neg h1, if_neg h2, if_neg h3, if_pos h4b]
    have e2 : y_dig n = [y_d (n / 1000), y_d (n / 100), y_d (n / 10), y_d n] := by unfold y_dig; rw [if_neg h1, if_neg h2, if_neg h3, if_pos h4b]
    rw [e1] at o1 hw ⊢
    rw [e2, show n / 1000 = n / 100 / 10 by omega]
    refine js_gcL (p := q + sg.length + 2) (by omega) hn hB o1 hw hl fun k1 x1 p1 => ?_
    exact (js_gcT2 (Or.inr ⟨_, rfl⟩) (by omega) (by omega) hf (by have := x1.1; omega) p1 hw hl).mono fun r h' e => ⟨e.1, (x1.tr e.2.1 (fun _ _ e => e)).le (Nat.le_refl _) (Nat.le_refl _), e.2.2⟩
  · have e1 : y_sz n = 5 := by unfold y_sz; rw [if_neg h1, if_neg h2, if_neg h3, if_neg h4b]
    have e2 : y_dig n = [y_d (n / 10000), y_d (n / 1000), y_d (n / 100), y_d (n / 10), y_d n] := by unfold y_dig; rw [if_neg h1, if_neg h2, if_neg h3, if_neg h4b]
    rw [e1] at o1 hw ⊢
    rw [e2, show n / 10000 = n / 100 / 100 by omega, show n / 1000 = n / 100 / 10 by omega]
    refine js_gcL (p := q + sg.length + 3) (by omega) hn hB o1 hw hl fun k1 x1 p1 => ?_
    have hB1 : k1.1.1 < yy_B := by have := x1.1; omega
    refine js_gcL (p := q + sg.length + 1) (by omega) (by omega) hB1 p1 hw hl fun k2 x2 p2 => ?_
    exact (js_gcT1 (Or.inr ⟨_, rfl⟩) (by omega) hf (by have := x2.1; omega) p2 hw hl).mono fun r h' e => ⟨e.1, ((x1.tr x2 (fun _ _ e => e)).tr e.2.1 (fun _ _ e => e)).le (Nat.le_refl _) (Nat.le_refl _), e.2.2⟩
theorem js_gcP {n q : Nat} (hn : n < 100000) (hB : h.1.1 < yy_B) (o : yW h v w) (hw : q + y_sz n ≤ w.length) (hl : w.length < 100000) : yy_fin X 349 (0, zz_in [.int (Int32.ofNat n), .int (Int32.ofNat (q + y_sz n)), .ref v] (zz_nl 349), [], h) (fun r h' => r = some (.int (Int32.ofNat q)) ∧ yx (fun a => a = v) 0 0 h h' ∧ yW h' v (y_buf w q (y_num (Int32.ofNat n)))) := by
  rw [y_num_p hn]
  refine yy_fin.steps (n := 3) (s' := (4, [some (.int (Int32.ofNat n)), some (.int (Int32.ofNat (q + y_sz n))), some (.ref v), none, none, some (.int (Int32.ofNat (q + y_sz n))), none], [.int (Int32.ofNat n)], h)) rfl ?_
  refine yy_fin.if rfl (fun c => ?_) (fun c => absurd (decide_eq_true (p := 0 ≤ Int32.ofNat n) (Int32.le_iff_toInt_le.mpr (by rw [y_nI (by omega), show (0 : Int32).toInt = 0 from rfl]; omega))) c)
  refine yy_fin.steps (n := 3) (s' := (16, [some (.int (Int32.ofNat n)), some (.int (Int32.ofNat (q + y_sz n))), some (.ref v), none, none, some (.int (Int32.ofNat (q + y_sz n))), some (.int 0)], [.int 0], h)) rfl ?_
  refine yy_fin.if rfl (fun cK => absurd cK (by decide)) (fun cK => ?_)
  refine yy_fin.steps (n := 3) (s' := (22, [some (.int (-(Int32.ofNat n))), some (.int (Int32.ofNat (q + y_sz n))), some (.ref v), none, none, some (.int (Int32.ofNat (q + y_sz n))), some (.int 0)], [], h)) rfl ?_
  exact js_gcM (sg := []) (Or.inl rfl) hn (Or.inl ⟨rfl, rfl⟩) hB o hw hl
theorem js_gcN {n q : Nat} (h0 : 0 < n) (hn : n < 100000) (hB : h.1.1 < yy_B) (o : yW h v w) (hw : q + (y_sz n + 1) ≤ w.length) (hl : w.length < 100000) : yy_fin X 349 (0, zz_in [.int (-Int32.ofNat n), .int (Int32.ofNat (q + (y_sz n + 1))), .ref v] (zz_nl 349), [], h) (fun r h' => r = some (.int (Int32.ofNat q)) ∧ yx (fun a => a = v) 0 0 h h' ∧ yW h' v (y_buf w q (y_num (-Int32.ofNat n)))) := by
  rw [y_num_n h0 hn]
  refine yy_fin.steps (n := 3) (s' := (4, [some (.int (-Int32.ofNat n)), some (.int (Int32.ofNat (q + (y_sz n + 1)))), some (.ref v), none, none, some (.int (Int32.ofNat (q + (y_sz n + 1)))), none], [.int (-Int32.ofNat n)], h)) rfl ?_
  refine yy_fin.if rfl (fun c => absurd (of_decide_eq_true c) (fun z => by have z := Int32.le_iff_toInt_le.mp z; rw [y_negT hn, show (0 : Int32).toInt = 0 from rfl] at z; omega)) (fun c => ?_)
  refine yy_fin.steps (n := 4) (s' := (16, [some (.int (-Int32.ofNat n)), some (.int (Int32.ofNat (q + (y_sz n + 1)))), some (.ref v), none, none, some (.int (Int32.ofNat (q + (y_sz n + 1)))), some (.int 1)], [.int 1], h)) rfl ?_
  refine yy_fin.if rfl (fun cK => ?_) (fun cK => absurd (by decide) cK)
  rw [show q + (y_sz n + 1) = q + ([45] : List Int32).length + y_sz n by rw [List.length_singleton]; omega] at hw ⊢
  exact js_gcM (sg := [45]) (Or.inl rfl) hn (Or.inr ⟨rfl, rfl⟩) hB o hw hl
theorem js_apIP {n : Nat} {x : Int32} (hb : yB h z k l) (hn : n < 100000) (ex : x = Int32.ofNat n) (hlt : l.length ≤ 19000) (hB : h.1.1 + 1 < yy_B) (hz : zz_Zr h) : yy_fin X 312 (0, zz_in [.ref k, .int (Int32.ofNat n)] (zz_nl 312), [], h) (fun r h' => r = some (.ref k) ∧ yx (fun q => z < q) 1 (2 * (l.length + (y_num x).length) + 2) h h' ∧ yB h' z k (l ++ y_num x)) := by
  obtain ⟨v, l2, zv, o, c0, n0, q, hA, hw⟩ := hb
  have hs5 := y_sz_le n
  have eL : (y_num x).length = y_sz n := by rw [ex, y_num_p hn]; exact y_dig_len n
  refine yy_fin.steps (n := 1) (s' := (1, [some (.ref k), some (.int (Int32.ofNat n)), none, none], [.ref k], h)) rfl ?_
  refine yy_fin.fi rfl o rfl n0 ?_
  refine yy_fin.steps (n := 3) (s' := (7, [some (.ref k), some (.int (Int32.ofNat n)), some (.int (Int32.ofNat l.length)), none], [.int (Int32.ofNat n), .int (Int32.ofNat l.length)], h)) rfl ?_
  refine yy_fin.calls (as := [.int (Int32.ofNat n)]) rfl (by decide) rfl rfl (Nat.le_of_ble_eq_true rfl) (Nat.le_of_ble_eq_true rfl) (js_szP hn) ?_
  rintro v h ⟨rfl, rfl⟩
  refine yy_fin.steps (n := 1) (s' := (11, [some (.ref k), some (.int (Int32.ofNat n)), some (.int (Int32.ofNat l.length)), none], [.int (Int32.ofNat l.length + (Int32.ofNat (y_sz n)))], h)) rfl ?_
  rw [y_ad]
  refine yy_fin.steps (n := 3) (s' := (14, [some (.ref k), some (.int (Int32.ofNat n)), some (.int (Int32.ofNat l.length)), some (.int (Int32.ofNat (l.length + y_sz n)))], [.int (Int32.ofNat (l.length + y_sz n)), .ref k], h)) rfl ?_
  refine yy_fin.cv (as := [.int (Int32.ofNat (l.length + y_sz n))]) rfl rfl rfl o (Nat.le_of_ble_eq_true rfl) (Nat.le_of_ble_eq_true rfl) (js_ens o c0 q (hA : yA (l ++ l2)) hw (by omega) hB hz) ?_
  rintro v h1 ⟨rfl, v1, w2, x1, o1, i1, q1, a1, m1, m2, hv1⟩
  refine yy_fin.steps (n := 1) (s' := (18, [some (.ref k), some (.int (Int32.ofNat n)), some (.int (Int32.ofNat l.length)), some (.int (Int32.ofNat (l.length + y_sz n)))], [.ref k], h1)) rfl ?_
  refine yy_fin.cv (as := []) rfl rfl rfl o1 (Nat.le_of_ble_eq_true rfl) (Nat.le_of_ble_eq_true rfl) (js_blat o1 ((i1 1).trans c0)) ?_
  rintro v h1 ⟨rfl, rfl⟩
  refine yy_fin.if rfl (fun cK => absurd cK (by decide)) (fun cK => ?_)
  refine yy_fin.steps (n := 3) (s' := (27, [some (.ref k), some (.int (Int32.ofNat n)), some (.int (Int32.ofNat l.length)), some (.int (Int32.ofNat (l.length + y_sz n)))], [.ref k, .int (Int32.ofNat (l.length + y_sz n)), .int (Int32.ofNat n)], h1)) rfl ?_
  refine yy_fin.fr rfl o1 rfl ?_
  have hB1 : h1.1.1 < yy_B := by have := x1.1; omega
  refine yy_fin.calls (as := [.int (Int32.ofNat n), .int (Int32.ofNat (l.length + y_sz n)), .ref v1]) rfl (by decide) rfl rfl (Nat.le_of_ble_eq_true rfl) (Nat.le_of_ble_eq_true rfl) (js_gcP hn hB1 q1 m1 (by omega)) ?_
  rintro v h2 ⟨rfl, x2, q2⟩
  rw [← ex] at q2
  refine yy_fin.steps (n := 4) (s' := (50, [some (.ref k), some (.int (Int32.ofNat n)), some (.int (Int32.ofNat l.length)), some (.int (Int32.ofNat (l.length + y_sz n)))], [.int (Int32.ofNat (l.length + y_sz n)), .ref k], h2)) rfl ?_
  have hkv : k ≠ v1 := fun e => (q1.1.neO o1) e.symm
  have o2 := o1.x x2 hkv
  refine yy_fin.wi rfl o2 rfl (Or.inl rfl) fun h3 x3 o3 n3 i3 => ?_
  refine yy_fin.steps (n := 1) (s' := (54, [some (.ref k), some (.int (Int32.ofNat n)), some (.int (Int32.ofNat l.length)), some (.int (Int32.ofNat (l.length + y_sz n)))], [.ref k], h3)) rfl ?_
  have hv1z : z < v1 := by
    rcases hv1 with e | e
    · rw [e]; exact zv.2.1
    · have := o.le; omega
  have e9 : y_buf (l ++ l2 ++ w2) l.length (y_num x) = (l ++ y_num x) ++ (l2 ++ w2).drop (y_num x).length := by
    unfold y_buf
    rw [List.append_assoc l l2 w2, List.take_left, ← List.drop_drop, List.drop_left, List.append_assoc]
  rw [e9] at q2
  rw [← eL] at m1 n3
  exact yy_fin.at (n := 1) rfl ⟨rfl, (((x1.wk (B := fun q => z < q) (fun q _ e => by rw [e]; exact zv.1) (Nat.le_refl _) (Nat.le_refl _)).tr x2 (fun q _ e => by rw [e]; exact hv1z)).tr x3 (fun q _ e => by rw [e]; exact zv.1)).le (Nat.le_refl _) (by rw [eL]; omega), v1, (l2 ++ w2).drop (y_num x).length, ⟨zv.1, hv1z, fun e => hkv e.symm⟩, o3, (i3 1 (by decide)).trans ((o1.i x2 hkv 1).trans ((i1 1).trans c0)), by rw [n3, List.length_append], q2.x x3 (fun e => hkv e.symm), yA_app (yA_app (yA_l hA) (y_num_A _)) (yA_drop _ (yA_app (yA_r hA) a1)), by have h9 := congrArg List.length e9; rw [y_buf_len m1] at h9; exact h9 ▸ m2⟩
theorem js_apIN {n : Nat} {x : Int32} (hb : yB h z k l) (h0 : 0 < n) (hn : n < 100000) (ex : x = -Int32.ofNat n) (hlt : l.length ≤ 19000) (hB : h.1.1 + 1 < yy_B) (hz : zz_Zr h) : yy_fin X 312 (0, zz_in [.ref k, .int (-Int32.ofNat n)] (zz_nl 312), [], h) (fun r h' => r = some (.ref k) ∧ yx (fun q => z < q) 1 (2 * (l.length + (y_num x).length) + 2) h h' ∧ yB h' z k (l ++ y_num x)) := by
  obtain ⟨v, l2, zv, o, c0, n0, q, hA, hw⟩ := hb
  have hs5 := y_sz_le n
  have eL : (y_num x).length = y_sz n + 1 := by rw [ex, y_num_n h0 hn]; rw [List.length_cons, y_dig_len]
  refine yy_fin.steps (n := 1) (s' := (1, [some (.ref k), some (.int (-Int32.ofNat n)), none, none], [.ref k], h)) rfl ?_
  refine yy_fin.fi rfl o rfl n0 ?_
  refine yy_fin.steps (n := 3) (s' := (7, [some (.ref k), some (.int (-Int32.ofNat n)), some (.int (Int32.ofNat l.length)), none], [.int (-Int32.ofNat n), .int (Int32.ofNat l.length)], h)) rfl ?_
  refine yy_fin.calls (as := [.int (-Int32.ofNat n)]) rfl (by decide) rfl rfl (Nat.le_of_ble_eq_true rfl) (Nat.le_of_ble_eq_true rfl) (js_szN h0 hn) ?_
  rintro v h ⟨rfl, rfl⟩
  refine yy_fin.steps (n := 1) (s' := (11, [some (.ref k), some (.int (-Int32.ofNat n)), some (.int (Int32.ofNat l.length)), none], [.int (Int32.ofNat l.length + (Int32.ofNat (y_sz n + 1)))], h)) rfl ?_
  rw [y_ad]
  refine yy_fin.steps (n := 3) (s' := (14, [some (.ref k), some (.int (-Int32.ofNat n)), some (.int (Int32.ofNat l.length)), some (.int (Int32.ofNat (l.length + (y_sz n + 1))))], [.int (Int32.ofNat (l.length + (y_sz n + 1))), .ref k], h)) rfl ?_
  refine yy_fin.cv (as := [.int (Int32.ofNat (l.length + (y_sz n + 1)))]) rfl rfl rfl o (Nat.le_of_ble_eq_true rfl) (Nat.le_of_ble_eq_true rfl) (js_ens o c0 q (hA : yA (l ++ l2)) hw (by omega) hB hz) ?_
  rintro v h1 ⟨rfl, v1, w2, x1, o1, i1, q1, a1, m1, m2, hv1⟩
  refine yy_fin.steps (n := 1) (s' := (18, [some (.ref k), some (.int (-Int32.ofNat n)), some (.int (Int32.ofNat l.length)), some (.int (Int32.ofNat (l.length + (y_sz n + 1))))], [.ref k], h1)) rfl ?_
  refine yy_fin.cv (as := []) rfl rfl rfl o1 (Nat.le_of_ble_eq_true rfl) (Nat.le_of_ble_eq_true rfl) (js_blat o1 ((i1 1).trans c0)) ?_
  rintro v h1 ⟨rfl, rfl⟩
  refine yy_fin.if rfl (fun cK => absurd cK (by decide)) (fun cK => ?_)
  refine yy_fin.steps (n := 3) (s' := (27, [some (.ref k), some (.int (-Int32.ofNat n)), some (.int (Int32.ofNat l.length)), some (.int (Int32.ofNat (l.length + (y_sz n + 1))))], [.ref k, .int (Int32.ofNat (l.length + (y_sz n + 1))), .int (-Int32.ofNat n)], h1)) rfl ?_
  refine yy_fin.fr rfl o1 rfl ?_
  have hB1 : h1.1.1 < yy_B := by have := x1.1; omega
  refine yy_fin.calls (as := [.int (-Int32.ofNat n), .int (Int32.ofNat (l.length + (y_sz n + 1))), .ref v1]) rfl (by decide) rfl rfl (Nat.le_of_ble_eq_true rfl) (Nat.le_of_ble_eq_true rfl) (js_gcN h0 hn hB1 q1 m1 (by omega)) ?_
  rintro v h2 ⟨rfl, x2, q2⟩
  rw [← ex] at q2
  refine yy_fin.steps (n := 4) (s' := (50, [some (.ref k), some (.int (-Int32.ofNat n)), some (.int (Int32.ofNat l.length)), some (.int (Int32.ofNat (l.length + (y_sz n + 1))))], [.int (Int32.ofNat (l.length + (y_sz n + 1))), .ref k], h2)) rfl ?_
  have hkv : k ≠ v1 := fun e => (q1.1.neO o1) e.symm
  have o2 := o1.x x2 hkv
  refine yy_fin.wi rfl o2 rfl (Or.inl rfl) fun h3 x3 o3 n3 i3 => ?_
  refine yy_fin.steps (n := 1) (s' := (54, [some (.ref k), some (.int (-Int32.ofNat n)), some (.int (Int32.ofNat l.length)), some (.int (Int32.ofNat (l.length + (y_sz n + 1))))], [.ref k], h3)) rfl ?_
  have hv1z : z < v1 := by
    rcases hv1 with e | e
    · rw [e]; exact zv.2.1
    · have := o.le; omega
  have e9 : y_buf (l ++ l2 ++ w2) l.length (y_num x) = (l ++ y_num x) ++ (l2 ++ w2).drop (y_num x).length := by
    unfold y_buf
    rw [List.append_assoc l l2 w2, List.take_left, ← List.drop_drop, List.drop_left, List.append_assoc]
  rw [e9] at q2
  rw [← eL] at m1 n3
  exact yy_fin.at (n := 1) rfl ⟨rfl, (((x1.wk (B := fun q => z < q) (fun q _ e => by rw [e]; exact zv.1) (Nat.le_refl _) (Nat.le_refl _)).tr x2 (fun q _ e => by rw [e]; exact hv1z)).tr x3 (fun q _ e => by rw [e]; exact zv.1)).le (Nat.le_refl _) (by rw [eL]; omega), v1, (l2 ++ w2).drop (y_num x).length, ⟨zv.1, hv1z, fun e => hkv e.symm⟩, o3, (i3 1 (by decide)).trans ((o1.i x2 hkv 1).trans ((i1 1).trans c0)), by rw [n3, List.length_append], q2.x x3 (fun e => hkv e.symm), yA_app (yA_app (yA_l hA) (y_num_A _)) (yA_drop _ (yA_app (yA_r hA) a1)), by have h9 := congrArg List.length e9; rw [y_buf_len m1] at h9; exact h9 ▸ m2⟩
theorem js_apI {x : Int32} (hb : yB h z k l) (hx : -100000 < x.toInt ∧ x.toInt < 100000) (hlt : l.length ≤ 19000) (hB : h.1.1 + 1 < yy_B) (hz : zz_Zr h) : yy_fin X 312 (0, zz_in [.ref k, .int x] (zz_nl 312), [], h) (fun r h' => r = some (.ref k) ∧ yx (fun q => z < q) 1 (2 * (l.length + (y_num x).length) + 2) h h' ∧ yB h' z k (l ++ y_num x)) := by
  rcases Int.lt_or_le x.toInt 0 with c | c
  · have e : x = -Int32.ofNat (-x.toInt).toNat := Int32.toInt_inj.mp (by rw [y_negT (by omega)]; omega)
    have h9 := js_apIN (X := X) (x := x) hb (n := (-x.toInt).toNat) (by omega) (by omega) e hlt hB hz
    rw [← e] at h9
    exact h9
  · have e : x = Int32.ofNat x.toInt.toNat := Int32.toInt_inj.mp (by rw [y_nI (by omega)]; omega)
    have h9 := js_apIP (X := X) (x := x) hb (n := x.toInt.toNat) (by omega) e hlt hB hz
    rw [← e] at h9
    exact h9
theorem js_appI {x : Int32} (hb : yB h z k l) (hx : -100000 < x.toInt ∧ x.toInt < 100000) (hlt : l.length ≤ 19000) (hB : h.1.1 + 1 < yy_B) (hz : zz_Zr h) : yy_fin X 309 (0, zz_in [.ref k, .int x] (zz_nl 309), [], h) (fun r h' => r = some (.ref k) ∧ yx (fun q => z < q) 1 (2 * (l.length + (y_num x).length) + 2) h h' ∧ yB h' z k (l ++ y_num x)) := by
  refine yy_fin.steps (n := 2) (s' := (2, [some (.ref k), some (.int x)], [.int x, .ref k], h)) rfl ?_
  obtain ⟨v, l2, zv, o, -⟩ := id hb
  refine yy_fin.cp (as := [.int x]) rfl (by decide) rfl rfl o (Nat.le_of_ble_eq_true rfl) (Nat.le_of_ble_eq_true rfl) (js_apI hb hx hlt hB hz) ?_
  rintro v h1 ⟨rfl, x1, b1⟩
  refine yy_fin.steps (n := 2) (s' := (7, [some (.ref k), some (.int x)], [.ref k], h1)) rfl ?_
  exact yy_fin.at (n := 1) rfl ⟨rfl, x1, b1⟩
theorem js_can {x : Int32} (hx : 0 ≤ x.toInt ∧ x.toInt ≤ 127) : yy_fin X 339 (0, zz_in [.int x] (zz_nl 339), [], h) (fun r h' => r = some (.int 1) ∧ h' = h) := by
  refine yy_fin.steps (n := 2) (s' := (4, [some (.int x)], [.int 255, .int x], h)) rfl ?_
  refine yy_fin.ic rfl (fun c => absurd (Int32.lt_iff_toInt_lt.mp (of_decide_eq_true c)) (by rw [show (255 : Int32).toInt = 255 from rfl]; omega)) (fun c => ?_)
  refine yy_fin.steps (n := 2) (s' := (12, [some (.int x)], [.int 1], h)) rfl ?_
  exact yy_fin.ret2 rfl rfl (Or.inr rfl) ⟨rfl, rfl⟩
theorem js_apC {x : Int32} (hb : yB h z k l) (hx : 0 ≤ x.toInt ∧ x.toInt ≤ 127) (hlt : l.length ≤ 19000) (hB : h.1.1 + 1 < yy_B) (hz : zz_Zr h) : yy_fin X 313 (0, zz_in [.ref k, .int x] (zz_nl 313), [], h) (fun r h' => r = some (.ref k) ∧ yx (fun q => z < q) 1 (2 * (l.length + 1) + 2) h h' ∧ yB h' z k (l ++ [x])) := by
  obtain ⟨v, l2, zv, o, c0, n0, q, hA, hw⟩ := hb
  refine yy_fin.steps (n := 2) (s' := (2, [some (.ref k), some (.int x)], [.ref k, .ref k], h)) rfl ?_
  refine yy_fin.fi rfl o rfl n0 ?_
  refine yy_fin.steps (n := 1) (s' := (6, [some (.ref k), some (.int x)], [.int 1, .int (Int32.ofNat l.length), .ref k], h)) rfl ?_
  refine yy_fin.steps (n := 1) (s' := (7, [some (.ref k), some (.int x)], [.int (Int32.ofNat l.length + 1), .ref k], h)) rfl ?_
  rw [show Int32.ofNat l.length + 1 = Int32.ofNat (l.length + 1) from y_ad l.length 1]
  refine yy_fin.cv (as := [.int (Int32.ofNat (l.length + 1))]) rfl rfl rfl o (Nat.le_of_ble_eq_true rfl) (Nat.le_of_ble_eq_true rfl) (js_ens o c0 q (hA : yA (l ++ l2)) hw (by omega) hB hz) ?_
  rintro v h1 ⟨rfl, v1, w2, x1, o1, i1, q1, a1, m1, m2, hv1⟩
  refine yy_fin.steps (n := 1) (s' := (11, [some (.ref k), some (.int x)], [.ref k], h1)) rfl ?_
  refine yy_fin.cv (as := []) rfl rfl rfl o1 (Nat.le_of_ble_eq_true rfl) (Nat.le_of_ble_eq_true rfl) (js_blat o1 ((i1 1).trans c0)) ?_
  rintro v h1 ⟨rfl, rfl⟩
  refine yy_fin.if rfl (fun cK => absurd cK (by decide)) (fun cK => ?_)
  refine yy_fin.steps (n := 1) (s' := (18, [some (.ref k), some (.int x)], [.int x], h1)) rfl ?_
  refine yy_fin.calls (as := [.int x]) rfl (by decide) rfl rfl (Nat.le_of_ble_eq_true rfl) (Nat.le_of_ble_eq_true rfl) (js_can hx) ?_
  rintro v h1 ⟨rfl, rfl⟩
  refine yy_fin.if rfl (fun cK => absurd cK (by decide)) (fun cK => ?_)
  refine yy_fin.steps (n := 1) (s' := (25, [some (.ref k), some (.int x)], [.ref k], h1)) rfl ?_
  refine yy_fin.fr rfl o1 rfl ?_
  refine yy_fin.steps (n := 2) (s' := (30, [some (.ref k), some (.int x)], [.ref k, .ref k, .ref v1], h1)) rfl ?_
  refine yy_fin.fi rfl o1 rfl ((i1 3).trans n0) ?_
  refine yy_fin.steps (n := 2) (s' := (35, [some (.ref k), some (.int x)], [.int 1, .int (Int32.ofNat l.length), .ref k, .int (Int32.ofNat l.length), .ref v1], h1)) rfl ?_
  refine yy_fin.steps (n := 1) (s' := (36, [some (.ref k), some (.int x)], [.int (Int32.ofNat l.length + 1), .ref k, .int (Int32.ofNat l.length), .ref v1], h1)) rfl ?_
  rw [show Int32.ofNat l.length + 1 = Int32.ofNat (l.length + 1) from y_ad l.length 1]
  refine yy_fin.wi rfl o1 rfl (Or.inl rfl) fun h2 x2 o2 n2 i2 => ?_
  refine yy_fin.steps (n := 1) (s' := (40, [some (.ref k), some (.int x)], [.int x, .int (Int32.ofNat l.length), .ref v1], h2)) rfl ?_
  refine yy_fin.steps (n := 1) (s' := (41, [some (.ref k), some (.int x)], [.int x.toInt8.toInt32, .int (Int32.ofNat l.length), .ref v1], h2)) rfl ?_
  rw [y_i2b hx]
  have hkv : v1 ≠ k := q1.1.neO o1
  have hl2 : l.length < (l ++ l2 ++ w2).length := by omega
  refine yy_fin.swb rfl (q1.x x2 hkv) (y_inb hl2 (by omega)) (y_cl (by omega)) hx fun h3 x3 q3 => ?_
  refine yy_fin.steps (n := 2) (s' := (76, [some (.ref k), some (.int x)], [.ref k], h3)) rfl ?_
  have hv1z : z < v1 := by
    rcases hv1 with e | e
    · rw [e]; exact zv.2.1
    · have := o.le; omega
  have e9 : (l ++ l2 ++ w2).set l.length x = (l ++ [x]) ++ (l2 ++ w2).drop 1 := by
    rw [List.append_assoc l l2 w2, List.set_append_right _ _ (Nat.le_refl _), Nat.sub_self, List.append_assoc]
    cases h9 : l2 ++ w2 with
    | nil =>
      rw [List.append_assoc, h9, List.append_nil] at hl2
      omega
    | cons a b => rfl
  have h9 := congrArg List.length e9
  rw [List.length_set] at h9
  rw [e9] at q3
  exact yy_fin.at (n := 1) rfl ⟨rfl, (((x1.wk (B := fun q => z < q) (fun q _ e => by rw [e]; exact zv.1) (Nat.le_refl _) (Nat.le_refl _)).tr x2 (fun q _ e => by rw [e]; exact zv.1)).tr x3 (fun q _ e => by rw [e]; exact hv1z)).le (Nat.le_refl _) (by omega), v1, (l2 ++ w2).drop 1, ⟨zv.1, hv1z, hkv⟩, o2.x x3 (fun e => hkv e.symm), ((o2.i x3 (fun e => hkv e.symm) 1).trans (i2 1 (by decide))).trans ((i1 1).trans c0), ((o2.i x3 (fun e => hkv e.symm) 3).trans n2).trans (by rw [List.length_append]; rfl), q3, yA_app (yA_app (yA_l hA) (yA_cons hx yA_nil)) (yA_drop _ (yA_app (yA_r hA) a1)), h9 ▸ m2⟩
theorem js_appC {x : Int32} (hb : yB h z k l) (hx : 0 ≤ x.toInt ∧ x.toInt ≤ 127) (hlt : l.length ≤ 19000) (hB : h.1.1 + 1 < yy_B) (hz : zz_Zr h) : yy_fin X 310 (0, zz_in [.ref k, .int x] (zz_nl 310), [], h) (fun r h' => r = some (.ref k) ∧ yx (fun q => z < q) 1 (2 * (l.length + 1) + 2) h h' ∧ yB h' z k (l ++ [x])) := by
  refine yy_fin.steps (n := 2) (s' := (2, [some (.ref k), some (.int x)], [.int x, .ref k], h)) rfl ?_
  obtain ⟨v, l2, zv, o, -⟩ := id hb
  refine yy_fin.cp (as := [.int x]) rfl (by decide) rfl rfl o (Nat.le_of_ble_eq_true rfl) (Nat.le_of_ble_eq_true rfl) (js_apC hb hx hlt hB hz) ?_
  rintro v h1 ⟨rfl, x1, b1⟩
  refine yy_fin.steps (n := 2) (s' := (7, [some (.ref k), some (.int x)], [.ref k], h1)) rfl ?_
  exact yy_fin.at (n := 1) rfl ⟨rfl, x1, b1⟩
theorem js_ini2 (o : yO h k 13 [some none, none, none, none]) (i0 : ∀ j, h.2.2 k j = 0) (hB : h.1.1 + 1 < yy_B) (hz : zz_Zr h) (hzk : z < k) : yy_fin X 307 (0, zz_in [.ref k, .int 16] (zz_nl 307), [], h) (fun r h' => r = none ∧ yx (fun q => q = k) 1 16 h h' ∧ yB h' z k []) := by
  refine yy_fin.steps (n := 3) (s' := (7, [some (.ref k), some (.int 16)], [.int 1], h)) rfl ?_
  refine yy_fin.if rfl (fun cK => absurd cK (by decide)) (fun cK => ?_)
  refine yy_fin.steps (n := 2) (s' := (12, [some (.ref k), some (.int 16)], [.int 16, .ref k], h)) rfl ?_
  refine yy_fin.nw (n := 16) rfl (by decide) rfl (by decide) hB hz fun h1 x1 e1 q1 => ?_
  have o1 := o.x x1 id
  refine yy_fin.wr rfl o1 rfl fun h2 x2 o2 i2 => ?_
  refine yy_fin.steps (n := 2) (s' := (19, [some (.ref k), some (.int 16)], [.int 0, .ref k], h2)) rfl ?_
  refine yy_fin.wi rfl o2 rfl (Or.inr ⟨rfl, Or.inl rfl⟩) fun h3 x3 o3 n3 i3 => ?_
  refine yy_fin.steps (n := 1) (s' := (38, [some (.ref k), some (.int 16)], [], h3)) rfl ?_
  have hle := o.le
  exact yy_fin.at (n := 1) rfl ⟨rfl, (((x1.wk (B := fun q => q = k) (fun _ _ e => e.elim) (Nat.le_refl _) (Nat.le_refl _)).tr x2 (fun _ _ e => e)).tr x3 (fun _ _ e => e)).le (Nat.le_refl _) (Nat.le_refl _), h.1.1 + 1, List.replicate 16 0, ⟨hzk, by omega, by omega⟩, o3, n3, (i3 3 (by decide)).trans ((i2 3).trans ((o.i x1 id 3).trans (i0 3))), (q1.x x2 (fun e => by omega)).x x3 (fun e => by omega), yA_rep _, by decide⟩
theorem js_init (o : yO h k 13 [some none, none, none, none]) (i0 : ∀ j, h.2.2 k j = 0) (hB : h.1.1 + 1 < yy_B) (hz : zz_Zr h) (hzk : z < k) : yy_fin X 306 (0, zz_in [.ref k] (zz_nl 306), [], h) (fun r h' => r = none ∧ yx (fun q => q = k) 1 16 h h' ∧ yB h' z k []) := by
  refine yy_fin.steps (n := 2) (s' := (3, [some (.ref k)], [.int 16, .ref k], h)) rfl ?_
  refine yy_fin.cp (as := [.int 16]) rfl (by decide) rfl rfl o (Nat.le_of_ble_eq_true rfl) (Nat.le_of_ble_eq_true rfl) (js_ini2 o i0 hB hz hzk) ?_
  rintro v h1 ⟨rfl, x1, b1⟩
  exact yy_fin.at (n := 1) rfl ⟨rfl, x1, b1⟩
theorem js_rk {a b : Nat} (h1 : a ≤ b) (h2 : b < 100000) : yy_fin X 347 (0, zz_in [.int (Int32.ofNat a), .int (Int32.ofNat b)] (zz_nl 347), [], h) (fun r h' => r = none ∧ h' = h) := by
  refine yy_fin.steps (n := 2) (s' := (2, [some (.int (Int32.ofNat a)), some (.int (Int32.ofNat b))], [.int (Int32.ofNat a), .int (Int32.ofNat b)], h)) rfl ?_
  refine yy_fin.ic rfl (fun c => ?_) (fun c => absurd (decide_eq_true ((y_lei (by omega) (by omega)).mpr h1)) c)
  exact yy_fin.at (n := 1) rfl ⟨rfl, rfl⟩
theorem js_cr1 {a b : Nat} (q : yV h v w) (hA : yA w) (h1 : a ≤ b) (h2 : b ≤ w.length) (h3 : w.length < 100000) (hB : h.1.1 + 1 < yy_B) (hz : zz_Zr h) : yy_fin X 346 (0, zz_in [.ref v, .int (Int32.ofNat a), .int (Int32.ofNat b)] (zz_nl 346), [], h) (fun r h' => r = some (.ref (h.1.1 + 1)) ∧ yx yF 1 (b - a) h h' ∧ h'.1.1 = h.1.1 + 1 ∧ yW h' (h.1.1 + 1) ((w.drop a).take (b - a))) := by
  have hB0 : h.1.1 < yy_B := by omega
  refine yy_fin.steps (n := 2) (s' := (2, [some (.ref v), some (.int (Int32.ofNat a)), some (.int (Int32.ofNat b)), none, none], [.int (Int32.ofNat b), .int (Int32.ofNat a)], h)) rfl ?_
  refine yy_fin.calls (as := [.int (Int32.ofNat a), .int (Int32.ofNat b)]) rfl (by decide) rfl rfl (Nat.le_of_ble_eq_true rfl) (Nat.le_of_ble_eq_true rfl) (js_rk h1 (by omega)) ?_
  rintro v h ⟨rfl, rfl⟩
  refine yy_fin.steps (n := 2) (s' := (7, [some (.ref v), some (.int (Int32.ofNat a)), some (.int (Int32.ofNat b)), none, none], [.int (Int32.ofNat a), .int (Int32.ofNat b)], h)) rfl ?_
  refine yy_fin.steps (n := 1) (s' := (8, [some (.ref v), some (.int (Int32.ofNat a)), some (.int (Int32.ofNat b)), none, none], [.int (Int32.ofNat b - Int32.ofNat a)], h)) rfl ?_
  rw [y_sb h1]
  refine yy_fin.steps (n := 2) (s' := (10, [some (.ref v), some (.int (Int32.ofNat a)), some (.int (Int32.ofNat b)), some (.int (Int32.ofNat (b - a))), none], [.int (Int32.ofNat (b - a))], h)) rfl ?_
  refine yy_fin.nw rfl (nI_pos (n := b - a) (by omega)) (y_cl (by omega)) (by omega) hB hz fun k1 x1 e1 q1 => ?_
  have qq := q.x x1 fun _ => id
  have hB1 : k1.1.1 < yy_B := by omega
  refine yy_fin.steps (n := 6) (s' := (20, [some (.ref v), some (.int (Int32.ofNat a)), some (.int (Int32.ofNat b)), some (.int (Int32.ofNat (b - a))), some (.ref (h.1.1 + 1))], [.ref v, .int 0, .ref (h.1.1 + 1), .int (Int32.ofNat a), .ref v], k1)) rfl ?_
  refine yy_fin.vl rfl qq hB1 ?_
  refine yy_fin.steps (n := 1) (s' := (22, [some (.ref v), some (.int (Int32.ofNat a)), some (.int (Int32.ofNat b)), some (.int (Int32.ofNat (b - a))), some (.ref (h.1.1 + 1))], [.int (Int32.ofNat a), .int (Int32.ofNat w.length), .int 0, .ref (h.1.1 + 1), .int (Int32.ofNat a), .ref v], k1)) rfl ?_
  refine yy_fin.steps (n := 1) (s' := (23, [some (.ref v), some (.int (Int32.ofNat a)), some (.int (Int32.ofNat b)), some (.int (Int32.ofNat (b - a))), some (.ref (h.1.1 + 1))], [.int (Int32.ofNat w.length - Int32.ofNat a), .int 0, .ref (h.1.1 + 1), .int (Int32.ofNat a), .ref v], k1)) rfl ?_
  rw [y_sb (by omega)]
  refine yy_fin.steps (n := 2) (s' := (27, [some (.ref v), some (.int (Int32.ofNat a)), some (.int (Int32.ofNat b)), some (.int (Int32.ofNat (b - a))), some (.ref (h.1.1 + 1))], [.int (if (Int32.ofNat (b - a)) < (Int32.ofNat (w.length - a)) then (Int32.ofNat (b - a)) else (Int32.ofNat (w.length - a))), .int 0, .ref (h.1.1 + 1), .int (Int32.ofNat a), .ref v], k1)) rfl ?_
  have e3 : (if Int32.ofNat (b - a) < Int32.ofNat (w.length - a) then Int32.ofNat (b - a) else Int32.ofNat (w.length - a)) = Int32.ofNat (b - a) := by
    by_cases c : b - a < w.length - a
    · exact if_pos ((y_lt (by omega) (by omega)).mpr c)
    · rw [if_neg fun z => c ((y_lt (by omega) (by omega)).mp z), show w.length - a = b - a by omega]
  rw [e3]
  refine yy_fin.cw rfl qq hB1 q1 (s := a) (d := 0) (cnt := b - a) (y_clp (by omega)) ⟨rfl, by decide⟩ (y_clp (by omega)) (by omega) (by rw [List.length_replicate]; omega) (Nat.le_of_ble_eq_true rfl) hA fun k2 x2 q2 => ?_
  rw [List.take_zero, List.nil_append, Nat.zero_add, List.drop_replicate, Nat.sub_self, List.replicate_zero, List.append_nil] at q2
  refine yy_fin.steps (n := 1) (s' := (32, [some (.ref v), some (.int (Int32.ofNat a)), some (.int (Int32.ofNat b)), some (.int (Int32.ofNat (b - a))), some (.ref (h.1.1 + 1))], [.ref (h.1.1 + 1)], k2)) rfl ?_
  exact yy_fin.at (n := 1) rfl ⟨rfl, (x1.tr x2 (fun q hq e => by omega)).le (Nat.le_refl _) (Nat.le_refl _), (by have a1 := x2.1; omega), q2⟩
theorem js_cr2 {a b : Nat} (q : yV h v w) (hA : yA w) (h1 : a ≤ b) (h2 : b ≤ w.length) (h3 : w.length < 100000) (hB : h.1.1 + 1 < yy_B) (hz : zz_Zr h) : yy_fin X 345 (10, [some (.ref v), some (.int (Int32.ofNat a)), some (.int (Int32.ofNat b))], [], h) (fun r h' => r = some (.ref (h.1.1 + 1)) ∧ yx yF 1 (b - a) h h' ∧ h'.1.1 = h.1.1 + 1 ∧ yW h' (h.1.1 + 1) ((w.drop a).take (b - a))) := by
  refine yy_fin.steps (n := 3) (s' := (13, [some (.ref v), some (.int (Int32.ofNat a)), some (.int (Int32.ofNat b))], [.int (Int32.ofNat b), .int (Int32.ofNat a), .ref v], h)) rfl ?_
  refine yy_fin.calls (as := [.ref v, .int (Int32.ofNat a), .int (Int32.ofNat b)]) rfl (by decide) rfl rfl (Nat.le_of_ble_eq_true rfl) (Nat.le_of_ble_eq_true rfl) (js_cr1 q hA h1 h2 h3 hB hz) ?_
  rintro v k1 ⟨rfl, x1, e1, q1⟩
  exact yy_fin.at (n := 1) rfl ⟨rfl, x1, e1, q1⟩
theorem js_copyR {a b : Nat} (q : yV h v w) (hA : yA w) (h1 : a ≤ b) (h2 : b ≤ w.length) (h3 : w.length < 100000) (hB : h.1.1 + 1 < yy_B) (hz : zz_Zr h) (hn : a = 0 → b = w.length → yW h v w) : yy_fin X 345 (0, zz_in [.ref v, .int (Int32.ofNat a), .int (Int32.ofNat b)] (zz_nl 345), [], h) (fun r h' => r = some (.ref (h.1.1 + 1)) ∧ yx yF 1 (b - a) h h' ∧ h'.1.1 = h.1.1 + 1 ∧ yW h' (h.1.1 + 1) ((w.drop a).take (b - a))) := by
  have hB0 : h.1.1 < yy_B := by omega
  refine yy_fin.steps (n := 1) (s' := (1, [some (.ref v), some (.int (Int32.ofNat a)), some (.int (Int32.ofNat b))], [.int (Int32.ofNat a)], h)) rfl ?_
  by_cases ha : a = 0
  rotate_left
  · exact yy_fin.if rfl (fun _ => js_cr2 q hA h1 h2 h3 hB hz) (fun c => absurd (y_ne0 fun e => ha ((y_eqi (b := 0) (by omega) (by omega)).mp e)) c)
  refine yy_fin.if rfl (fun c => absurd ((y_eqi (b := 0) (by omega) (by omega)).mpr ha) (of_decide_eq_true c)) (fun c => ?_)
  refine yy_fin.steps (n := 2) (s' := (6, [some (.ref v), some (.int (Int32.ofNat a)), some (.int (Int32.ofNat b))], [.ref v, .int (Int32.ofNat b)], h)) rfl ?_
  refine yy_fin.vl rfl q hB0 ?_
  by_cases hb : b = w.length
  rotate_left
  · exact yy_fin.ic rfl (fun c => absurd ((y_eqi (by omega) (by omega)).mp (of_decide_eq_true c)) hb) (fun _ => js_cr2 q hA h1 h2 h3 hB hz)
  have qn := hn ha hb
  have hdt : (w.drop a).take (b - a) = w := by rw [ha, hb, List.drop_zero, Nat.sub_zero, List.take_length]
  refine yy_fin.ic rfl (fun c => ?_) (fun c => absurd (decide_eq_true ((y_eqi (by omega) (by omega)).mpr hb)) c)
  refine yy_fin.steps (n := 1) (s' := (18, [some (.ref v), some (.int (Int32.ofNat a)), some (.int (Int32.ofNat b))], [.ref v], h)) rfl ?_
  refine yy_fin.cb rfl qn.1 (fun j hj => by rw [qn.2 j _ (List.getElem?_eq_getElem hj)]; exact hA _ (List.getElem_mem _)) hB (Nat.le_of_ble_eq_true rfl) fun k1 x1 e1 o1 f1 => ?_
  rw [show yx yF 1 w.length h k1 = yx yF 1 (b - a) h k1 by rw [ha, hb, Nat.sub_zero]] at x1
  refine yy_fin.kb rfl o1 ?_
  exact yy_fin.at (n := 1) rfl ⟨rfl, x1, e1, ⟨by rw [hdt]; exact o1, fun j a9 e => by rw [hdt] at e; exact (f1 j).trans (qn.2 j a9 e)⟩⟩
theorem js_val (o : yO h k 13 [some (some v), none, none, none]) : yy_fin X 320 (0, zz_in [.ref k] (zz_nl 320), [], h) (fun r h' => r = some (.ref v) ∧ h' = h) := by
  refine yy_fin.steps (n := 1) (s' := (1, [some (.ref k)], [.ref k], h)) rfl ?_
  refine yy_fin.fr rfl o rfl ?_
  exact yy_fin.at (n := 1) rfl ⟨rfl, rfl⟩
theorem js_cnt2 {c : Int32} (o : yO h k 13 [some (some v), none, none, none]) (n0 : h.2.2 k 3 = c) : yy_fin X 322 (0, zz_in [.ref k] (zz_nl 322), [], h) (fun r h' => r = some (.int c) ∧ h' = h) := by
  refine yy_fin.steps (n := 1) (s' := (1, [some (.ref k)], [.ref k], h)) rfl ?_
  refine yy_fin.fi rfl o rfl n0 ?_
  exact yy_fin.at (n := 1) rfl ⟨rfl, rfl⟩
theorem js_cnt {c : Int32} (o : yO h k 13 [some (some v), none, none, none]) (n0 : h.2.2 k 3 = c) : yy_fin X 321 (0, zz_in [.ref k] (zz_nl 321), [], h) (fun r h' => r = some (.int c) ∧ h' = h) := by
  refine yy_fin.steps (n := 1) (s' := (1, [some (.ref k)], [.ref k], h)) rfl ?_
  refine yy_fin.cp (as := []) rfl (by decide) rfl rfl o (Nat.le_of_ble_eq_true rfl) (Nat.le_of_ble_eq_true rfl) (js_cnt2 o n0) ?_
  rintro v h ⟨rfl, rfl⟩
  exact yy_fin.at (n := 1) rfl ⟨rfl, rfl⟩
theorem js_str3 (hb : yB h z k l) (ot : yO h s 14 [some none, none, none, none]) (hB : h.1.1 + 1 < yy_B) (hz : zz_Zr h) : yy_fin X 325 (0, zz_in [.ref s, .ref k, .null] (zz_nl 325), [], h) (fun r h' => r = none ∧ yx (fun q => q = s) 1 l.length h h' ∧ yS h' s l) := by
  obtain ⟨v, l2, zv, o, c0, n0, q, hA, hw⟩ := hb
  refine yy_fin.steps (n := 3) (s' := (5, [some (.ref s), some (.ref k), some (.null), none, none], [.ref k], h)) rfl ?_
  refine yy_fin.cv (as := []) rfl rfl rfl o (Nat.le_of_ble_eq_true rfl) (Nat.le_of_ble_eq_true rfl) (js_val o) ?_
  rintro v h ⟨rfl, rfl⟩
  refine yy_fin.steps (n := 2) (s' := (10, [some (.ref s), some (.ref k), some (.null), some (.ref v), none], [.ref k], h)) rfl ?_
  refine yy_fin.cv (as := []) rfl rfl rfl o (Nat.le_of_ble_eq_true rfl) (Nat.le_of_ble_eq_true rfl) (js_cnt o n0) ?_
  rintro v h ⟨rfl, rfl⟩
  refine yy_fin.steps (n := 2) (s' := (16, [some (.ref s), some (.ref k), some (.null), some (.ref v), some (.int (Int32.ofNat l.length))], [.ref k], h)) rfl ?_
  refine yy_fin.cv (as := []) rfl rfl rfl o (Nat.le_of_ble_eq_true rfl) (Nat.le_of_ble_eq_true rfl) (js_blat o c0) ?_
  rintro v h ⟨rfl, rfl⟩
  refine yy_fin.if rfl (fun cK => absurd cK (by decide)) (fun cK => ?_)
  refine yy_fin.steps (n := 2) (s' := (24, [some (.ref s), some (.ref k), some (.null), some (.ref v), some (.int (Int32.ofNat l.length))], [.int 0, .ref s], h)) rfl ?_
  refine yy_fin.wi rfl ot rfl (Or.inr ⟨rfl, Or.inl rfl⟩) fun h1 x1 o1 n1 i1 => ?_
  have q1 := q.x x1 (q.1.neO ot)
  have hB1 : h1.1.1 + 1 < yy_B := by have := x1.1; omega
  have hle := x1.1
  have hlen : l.length ≤ (l ++ l2).length := by rw [List.length_append]; omega
  refine yy_fin.steps (n := 4) (s' := (32, [some (.ref s), some (.ref k), some (.null), some (.ref v), some (.int (Int32.ofNat l.length))], [.int (Int32.ofNat l.length), .int 0, .ref v, .ref s], h1)) rfl ?_
  refine yy_fin.calls (as := [.ref v, .int 0, .int (Int32.ofNat l.length)]) rfl (by decide) rfl rfl (Nat.le_of_ble_eq_true rfl) (Nat.le_of_ble_eq_true rfl) (js_copyR q1.v hA (a := 0) (b := l.length) (Nat.zero_le _) hlen (by omega) hB1 (x1.zr hz) (fun _ _ => q1)) ?_
  rintro v h2 ⟨rfl, x2, e2, q2⟩
  have o2 := o1.x x2 id
  refine yy_fin.wr rfl o2 rfl fun h3 x3 o3 i3 => ?_
  refine yy_fin.steps (n := 1) (s' := (97, [some (.ref s), some (.ref k), some (.null), some (.ref v), some (.int (Int32.ofNat l.length))], [], h3)) rfl ?_
  rw [List.drop_zero, Nat.sub_zero, List.take_left] at q2
  have q3 := q2.x x3 (fun e => by have := ot.le; omega)
  exact yy_fin.at (n := 1) rfl ⟨rfl, ((x1.tr x2 (fun _ _ e => e.elim)).tr x3 (fun _ _ e => e)).le (Nat.le_refl _) (by omega), h1.1.1 + 1, q3.v, yA_l hA, by omega, Or.inl ⟨o3, (i3 1).trans ((o1.i x2 id 1).trans n1)⟩⟩
theorem js_str2 (hb : yB h z k l) (ot : yO h s 14 [some none, none, none, none]) (hB : h.1.1 + 1 < yy_B) (hz : zz_Zr h) : yy_fin X 324 (0, zz_in [.ref s, .ref k] (zz_nl 324), [], h) (fun r h' => r = none ∧ yx (fun q => q = s) 1 l.length h h' ∧ yS h' s l) := by
  refine yy_fin.steps (n := 3) (s' := (3, [some (.ref s), some (.ref k)], [.null, .ref k, .ref s], h)) rfl ?_
  refine yy_fin.cp (as := [.ref k, .null]) rfl (by decide) rfl rfl ot (Nat.le_of_ble_eq_true rfl) (Nat.le_of_ble_eq_true rfl) (js_str3 hb ot hB hz) ?_
  rintro v h1 ⟨rfl, x1, t1⟩
  exact yy_fin.at (n := 1) rfl ⟨rfl, x1, t1⟩
theorem js_toS (hb : yB h z k l) (hB : h.1.1 + 2 < yy_B) (hz : zz_Zr h) : yy_fin X 323 (0, zz_in [.ref k] (zz_nl 323), [], h) (fun r h' => r = some (.ref (h.1.1 + 1)) ∧ yx yF 2 (l.length + 4) h h' ∧ yS h' (h.1.1 + 1) l) := by
  refine yy_fin.no rfl (by omega) hz fun h1 x1 e1 o1 i1 => ?_
  have hb1 := hb.x x1 fun _ _ => id
  refine yy_fin.steps (n := 2) (s' := (5, [some (.ref k)], [.ref k, .ref (h.1.1 + 1), .ref (h.1.1 + 1)], h1)) rfl ?_
  refine yy_fin.cp (as := [.ref k]) rfl (by decide) rfl rfl o1 (Nat.le_of_ble_eq_true rfl) (Nat.le_of_ble_eq_true rfl) (js_str2 hb1 o1 (by omega) (x1.zr hz)) ?_
  rintro v h2 ⟨rfl, x2, t2⟩
  exact yy_fin.at (n := 1) rfl ⟨rfl, (x1.tr x2 (fun q hq e => by omega)).le (Nat.le_refl _) (by show 4 + l.length ≤ _; omega), t2⟩
theorem js_mkS (ot : yO h s 14 [some none, none, none, none]) (q : yW h v l) (hA : yA l) (hl : l.length < 100000) : yy_fin X 326 (0, zz_in [.ref s, .ref v, .int 0] (zz_nl 326), [], h) (fun r h' => r = none ∧ yx (fun q => q = s) 0 0 h h' ∧ yS h' s l) := by
  refine yy_fin.steps (n := 4) (s' := (6, [some (.ref s), some (.ref v), some (.int 0)], [.ref v, .ref s], h)) rfl ?_
  refine yy_fin.wr rfl ot rfl fun h1 x1 o1 i1 => ?_
  refine yy_fin.steps (n := 2) (s' := (11, [some (.ref s), some (.ref v), some (.int 0)], [.int 0, .ref s], h1)) rfl ?_
  refine yy_fin.wi rfl o1 rfl (Or.inr ⟨rfl, Or.inl rfl⟩) fun h2 x2 o2 n2 i2 => ?_
  have hne := q.1.neO ot
  exact yy_fin.at (n := 1) rfl ⟨rfl, (x1.tr x2 (fun _ _ e => e)).le (Nat.le_refl _) (Nat.le_refl _), v, ((q.x x1 hne).x x2 hne).v, hA, hl, Or.inl ⟨o2, n2⟩⟩
theorem js_newS {a n : Nat} (q : yV h v w) (hA : yA w) (h2 : a + n ≤ w.length) (h3 : w.length < 100000) (hpart : a = 0 → a + n ≠ w.length) (hB : h.1.1 + 2 < yy_B) (hz : zz_Zr h) : yy_fin X 343 (0, zz_in [.ref v, .int (Int32.ofNat a), .int (Int32.ofNat n)] (zz_nl 343), [], h) (fun r h' => ∃ p, r = some (.ref p) ∧ yx yF 2 (n + 4) h h' ∧ yS h' p ((w.drop a).take n)) := by
  refine yy_fin.steps (n := 1) (s' := (1, [some (.ref v), some (.int (Int32.ofNat a)), some (.int (Int32.ofNat n))], [.int (Int32.ofNat n)], h)) rfl ?_
  by_cases hn0 : n = 0
  · rw [hn0]
    refine yy_fin.if rfl (fun c => absurd c (by decide)) (fun _ => ?_)
    refine yy_fin.steps (n := 1) (s' := (6, [some (.ref v), some (.int (Int32.ofNat a)), some (.int (Int32.ofNat 0))], [.ref 1000000], h)) rfl ?_
    exact yy_fin.at (n := 1) rfl ⟨1000000, rfl, yx.rf.wk (fun _ _ e => e) (Nat.zero_le _) (Nat.zero_le _), 1000100, Or.inr ⟨Nat.le_of_ble_eq_true rfl, by rw [List.take_zero]; rfl⟩, by rw [List.take_zero]; exact yA_nil, by rw [List.take_zero]; decide, Or.inr ⟨Nat.le_of_ble_eq_true rfl, Nat.le_of_ble_eq_true rfl, rfl⟩⟩
  refine yy_fin.if rfl (fun c => ?_) (fun c => absurd (y_ne0 fun e => hn0 ((y_eqi (b := 0) (by omega) (by omega)).mp e)) c)
  refine yy_fin.no rfl (by omega) hz fun h1 x1 e1 o1 i1 => ?_
  have q1 := q.x x1 fun _ => id
  refine yy_fin.steps (n := 5) (s' := (15, [some (.ref v), some (.int (Int32.ofNat a)), some (.int (Int32.ofNat n))], [.int (Int32.ofNat n), .int (Int32.ofNat a), .int (Int32.ofNat a), .ref v, .ref (h.1.1 + 1), .ref (h.1.1 + 1)], h1)) rfl ?_
  refine yy_fin.steps (n := 1) (s' := (16, [some (.ref v), some (.int (Int32.ofNat a)), some (.int (Int32.ofNat n))], [.int (Int32.ofNat a + Int32.ofNat n), .int (Int32.ofNat a), .ref v, .ref (h.1.1 + 1), .ref (h.1.1 + 1)], h1)) rfl ?_
  rw [y_ad]
  refine yy_fin.calls (as := [.ref v, .int (Int32.ofNat a), .int (Int32.ofNat (a + n))]) rfl (by decide) rfl rfl (Nat.le_of_ble_eq_true rfl) (Nat.le_of_ble_eq_true rfl) (js_copyR q1 hA (a := a) (b := a + n) (by omega) h2 h3 (by omega) (x1.zr hz) (fun e1 e2 => absurd e2 (hpart e1))) ?_
  rintro v h2 ⟨rfl, x2, e2, q2⟩
  rw [show a + n - a = n by omega] at x2 q2
  have o2 := o1.x x2 id
  refine yy_fin.steps (n := 1) (s' := (20, [some (.ref v), some (.int (Int32.ofNat a)), some (.int (Int32.ofNat n))], [.int 0, .ref (h1.1.1 + 1), .ref (h.1.1 + 1), .ref (h.1.1 + 1)], h2)) rfl ?_
  refine yy_fin.cp (as := [.ref (h1.1.1 + 1), .int 0]) rfl (by decide) rfl rfl o2 (Nat.le_of_ble_eq_true rfl) (Nat.le_of_ble_eq_true rfl) (js_mkS o2 q2 (yA_take _ (yA_drop _ hA)) (by rw [List.length_take, List.length_drop]; omega)) ?_
  rintro v h3 ⟨rfl, x3, t3⟩
  exact yy_fin.at (n := 1) rfl ⟨h.1.1 + 1, rfl, ((x1.tr x2 (fun q hq e => e)).tr x3 (fun q hq e => by omega)).le (Nat.le_refl _) (by show 4 + n + 0 ≤ _; omega), t3⟩
theorem js_c3 {a b n : Nat} {F : Value} (hF : F = .null ∨ ∃ q, F = .ref q) (h1 : a ≤ b) (h2 : b ≤ n) (h3 : n < 100000) : yy_fin X 351 (0, zz_in [.int (Int32.ofNat a), .int (Int32.ofNat b), .int (Int32.ofNat n), F] (zz_nl 351), [], h) (fun r h' => r = some (.int (Int32.ofNat a)) ∧ h' = h) := by
  rcases hF with rfl | ⟨q, rfl⟩
  · refine yy_fin.steps (n := 1) (s' := (1, [some (.int (Int32.ofNat a)), some (.int (Int32.ofNat b)), some (.int (Int32.ofNat n)), some (.null)], [.int (Int32.ofNat a)], h)) rfl ?_
    refine yy_fin.if rfl (fun c => absurd (of_decide_eq_true c) (nI_pos (n := a) (by omega))) (fun c => ?_)
    refine yy_fin.steps (n := 2) (s' := (6, [some (.int (Int32.ofNat a)), some (.int (Int32.ofNat b)), some (.int (Int32.ofNat n)), some (.null)], [.int (Int32.ofNat b), .int (Int32.ofNat a)], h)) rfl ?_
    refine yy_fin.ic rfl (fun c => absurd ((y_lt (by omega) (by omega)).mp (of_decide_eq_true c)) (by omega)) (fun c => ?_)
    refine yy_fin.steps (n := 2) (s' := (11, [some (.int (Int32.ofNat a)), some (.int (Int32.ofNat b)), some (.int (Int32.ofNat n)), some (.null)], [.int (Int32.ofNat n), .int (Int32.ofNat b)], h)) rfl ?_
    refine yy_fin.ic rfl (fun c => ?_) (fun c => absurd (decide_eq_true ((y_lei (by omega) (by omega)).mpr h2)) c)
    refine yy_fin.steps (n := 1) (s' := (23, [some (.int (Int32.ofNat a)), some (.int (Int32.ofNat b)), some (.int (Int32.ofNat n)), some (.null)], [.int (Int32.ofNat a)], h)) rfl ?_
    exact yy_fin.at (n := 1) rfl ⟨rfl, rfl⟩
  · refine yy_fin.steps (n := 1) (s' := (1, [some (.int (Int32.ofNat a)), some (.int (Int32.ofNat b)), some (.int (Int32.ofNat n)), some (.ref q)], [.int (Int32.ofNat a)], h)) rfl ?_
    refine yy_fin.if rfl (fun c => absurd (of_decide_eq_true c) (nI_pos (n := a) (by omega))) (fun c => ?_)
    refine yy_fin.steps (n := 2) (s' := (6, [some (.int (Int32.ofNat a)), some (.int (Int32.ofNat b)), some (.int (Int32.ofNat n)), some (.ref q)], [.int (Int32.ofNat b), .int (Int32.ofNat a)], h)) rfl ?_
    refine yy_fin.ic rfl (fun c => absurd ((y_lt (by omega) (by omega)).mp (of_decide_eq_true c)) (by omega)) (fun c => ?_)
    refine yy_fin.steps (n := 2) (s' := (11, [some (.int (Int32.ofNat a)), some (.int (Int32.ofNat b)), some (.int (Int32.ofNat n)), some (.ref q)], [.int (Int32.ofNat n), .int (Int32.ofNat b)], h)) rfl ?_
    refine yy_fin.ic rfl (fun c => ?_) (fun c => absurd (decide_eq_true ((y_lei (by omega) (by omega)).mpr h2)) c)
    refine yy_fin.steps (n := 1) (s' := (23, [some (.int (Int32.ofNat a)), some (.int (Int32.ofNat b)), some (.int (Int32.ofNat n)), some (.ref q)], [.int (Int32.ofNat a)], h)) rfl ?_
    exact yy_fin.at (n := 1) rfl ⟨rfl, rfl⟩
theorem js_c3k {a b n : Nat} (h1 : a ≤ b) (h2 : b ≤ n) (h3 : n < 100000) : yy_fin X 337 (0, zz_in [.int (Int32.ofNat a), .int (Int32.ofNat b), .int (Int32.ofNat n)] (zz_nl 337), [], h) (fun r h' => r = none ∧ h' = h) := by
  obtain ⟨X1, b9⟩ := X
  cases b9
  · refine yy_fin.steps (n := 3) (s' := (3, [some (.int (Int32.ofNat a)), some (.int (Int32.ofNat b)), some (.int (Int32.ofNat n))], [.int (Int32.ofNat n), .int (Int32.ofNat b), .int (Int32.ofNat a)], h)) rfl ?_
    refine yy_fin.steps (n := 1) (s' := (6, [some (.int (Int32.ofNat a)), some (.int (Int32.ofNat b)), some (.int (Int32.ofNat n))], [.null, .int (Int32.ofNat n), .int (Int32.ofNat b), .int (Int32.ofNat a)], h)) rfl ?_
    refine yy_fin.calls (as := [.int (Int32.ofNat a), .int (Int32.ofNat b), .int (Int32.ofNat n), .null]) rfl (by decide) rfl rfl (Nat.le_of_ble_eq_true rfl) (Nat.le_of_ble_eq_true rfl) (js_c3 (Or.inl rfl) h1 h2 h3) ?_
    rintro v h ⟨rfl, rfl⟩
    refine yy_fin.steps (n := 1) (s' := (10, [some (.int (Int32.ofNat a)), some (.int (Int32.ofNat b)), some (.int (Int32.ofNat n))], [], h)) rfl ?_
    exact yy_fin.at (n := 1) rfl ⟨rfl, rfl⟩
  · refine yy_fin.steps (n := 3) (s' := (3, [some (.int (Int32.ofNat a)), some (.int (Int32.ofNat b)), some (.int (Int32.ofNat n))], [.int (Int32.ofNat n), .int (Int32.ofNat b), .int (Int32.ofNat a)], h)) rfl ?_
    refine yy_fin.steps (n := 1) (s' := (6, [some (.int (Int32.ofNat a)), some (.int (Int32.ofNat b)), some (.int (Int32.ofNat n))], [.ref (yy_B + 300), .int (Int32.ofNat n), .int (Int32.ofNat b), .int (Int32.ofNat a)], h)) rfl ?_
    refine yy_fin.calls (as := [.int (Int32.ofNat a), .int (Int32.ofNat b), .int (Int32.ofNat n), .ref (yy_B + 300)]) rfl (by decide) rfl rfl (Nat.le_of_ble_eq_true rfl) (Nat.le_of_ble_eq_true rfl) (js_c3 (Or.inr ⟨_, rfl⟩) h1 h2 h3) ?_
    rintro v h ⟨rfl, rfl⟩
    refine yy_fin.steps (n := 1) (s' := (10, [some (.int (Int32.ofNat a)), some (.int (Int32.ofNat b)), some (.int (Int32.ofNat n))], [], h)) rfl ?_
    exact yy_fin.at (n := 1) rfl ⟨rfl, rfl⟩
theorem js_sub2 {a b : Nat} (ot : yT h k v l) (h1 : a ≤ b) (h2 : b ≤ l.length) (hB : h.1.1 + 2 < yy_B) (hz : zz_Zr h) (hp : a = 0 → b ≠ l.length) {a4 : Option Value} : yy_fin X 335 (22, [some (.ref k), some (.int (Int32.ofNat a)), some (.int (Int32.ofNat b)), some (.int (Int32.ofNat l.length)), a4], [], h) (fun r h' => ∃ p, r = some (.ref p) ∧ yx yF 2 (b - a + 4) h h' ∧ yS h' p ((l.drop a).take (b - a))) := by
  have hB0 : h.1.1 < yy_B := by omega
  have hl3 := ot.2.2.1
  refine yy_fin.steps (n := 2) (s' := (24, [some (.ref k), some (.int (Int32.ofNat a)), some (.int (Int32.ofNat b)), some (.int (Int32.ofNat l.length)), a4], [.int (Int32.ofNat a), .int (Int32.ofNat b)], h)) rfl ?_
  refine yy_fin.steps (n := 1) (s' := (25, [some (.ref k), some (.int (Int32.ofNat a)), some (.int (Int32.ofNat b)), some (.int (Int32.ofNat l.length)), a4], [.int (Int32.ofNat b - Int32.ofNat a)], h)) rfl ?_
  rw [y_sb h1]
  refine yy_fin.steps (n := 2) (s' := (28, [some (.ref k), some (.int (Int32.ofNat a)), some (.int (Int32.ofNat b)), some (.int (Int32.ofNat l.length)), some (.int (Int32.ofNat (b - a)))], [.ref k], h)) rfl ?_
  refine yy_fin.ct (as := []) rfl (by decide) rfl rfl ot hB0 (Nat.le_of_ble_eq_true rfl) (Nat.le_of_ble_eq_true rfl) (js_lat ot hB0) ?_
  rintro v h ⟨rfl, rfl⟩
  refine yy_fin.if rfl (fun cK => absurd cK (by decide)) (fun cK => ?_)
  refine yy_fin.steps (n := 1) (s' := (35, [some (.ref k), some (.int (Int32.ofNat a)), some (.int (Int32.ofNat b)), some (.int (Int32.ofNat l.length)), some (.int (Int32.ofNat (b - a)))], [.ref k], h)) rfl ?_
  refine yy_fin.tv rfl ot hB0 ?_
  refine yy_fin.steps (n := 2) (s' := (41, [some (.ref k), some (.int (Int32.ofNat a)), some (.int (Int32.ofNat b)), some (.int (Int32.ofNat l.length)), some (.int (Int32.ofNat (b - a)))], [.int (Int32.ofNat (b - a)), .int (Int32.ofNat a), .ref v], h)) rfl ?_
  refine yy_fin.calls (as := [.ref v, .int (Int32.ofNat a), .int (Int32.ofNat (b - a))]) rfl (by decide) rfl rfl (Nat.le_of_ble_eq_true rfl) (Nat.le_of_ble_eq_true rfl) (js_newS ot.1 ot.2.1 (a := a) (n := b - a) (by omega) ot.2.2.1 (fun e1 e2 => hp e1 (by omega)) hB hz) ?_
  rintro v k1 ⟨p, rfl, x1, t1⟩
  refine yy_fin.steps (n := 1) (s' := (57, [some (.ref k), some (.int (Int32.ofNat a)), some (.int (Int32.ofNat b)), some (.int (Int32.ofNat l.length)), some (.int (Int32.ofNat (b - a)))], [.ref p], k1)) rfl ?_
  exact yy_fin.at (n := 1) rfl ⟨p, rfl, x1, t1⟩
theorem js_sub {a b : Nat} (ot : yT h k v l) (h1 : a ≤ b) (h2 : b ≤ l.length) (hB : h.1.1 + 2 < yy_B) (hz : zz_Zr h) : yy_fin X 335 (0, zz_in [.ref k, .int (Int32.ofNat a), .int (Int32.ofNat b)] (zz_nl 335), [], h) (fun r h' => ∃ p, r = some (.ref p) ∧ yx yF 2 (b - a + 4) h h' ∧ yS h' p ((l.drop a).take (b - a))) := by
  have hB0 : h.1.1 < yy_B := by omega
  have hl3 := ot.2.2.1
  refine yy_fin.steps (n := 1) (s' := (1, [some (.ref k), some (.int (Int32.ofNat a)), some (.int (Int32.ofNat b)), none, none], [.ref k], h)) rfl ?_
  refine yy_fin.ct (as := []) rfl (by decide) rfl rfl ot hB0 (Nat.le_of_ble_eq_true rfl) (Nat.le_of_ble_eq_true rfl) (js_len ot hB0) ?_
  rintro v h ⟨rfl, rfl⟩
  refine yy_fin.steps (n := 4) (s' := (8, [some (.ref k), some (.int (Int32.ofNat a)), some (.int (Int32.ofNat b)), some (.int (Int32.ofNat l.length)), none], [.int (Int32.ofNat l.length), .int (Int32.ofNat b), .int (Int32.ofNat a)], h)) rfl ?_
  refine yy_fin.calls (as := [.int (Int32.ofNat a), .int (Int32.ofNat b), .int (Int32.ofNat l.length)]) rfl (by decide) rfl rfl (Nat.le_of_ble_eq_true rfl) (Nat.le_of_ble_eq_true rfl) (js_c3k h1 h2 ot.2.2.1) ?_
  rintro v h ⟨rfl, rfl⟩
  refine yy_fin.steps (n := 1) (s' := (12, [some (.ref k), some (.int (Int32.ofNat a)), some (.int (Int32.ofNat b)), some (.int (Int32.ofNat l.length)), none], [.int (Int32.ofNat a)], h)) rfl ?_
  by_cases ha : a = 0
  rotate_left
  · exact yy_fin.if rfl (fun _ => js_sub2 ot h1 h2 hB hz fun e => absurd e ha) (fun c => absurd (y_ne0 fun e => ha ((y_eqi (b := 0) (by omega) (by omega)).mp e)) c)
  refine yy_fin.if rfl (fun c => absurd ((y_eqi (b := 0) (by omega) (by omega)).mpr ha) (of_decide_eq_true c)) (fun c => ?_)
  refine yy_fin.steps (n := 2) (s' := (17, [some (.ref k), some (.int (Int32.ofNat a)), some (.int (Int32.ofNat b)), some (.int (Int32.ofNat l.length)), none], [.int (Int32.ofNat l.length), .int (Int32.ofNat b)], h)) rfl ?_
  by_cases hb : b = l.length
  rotate_left
  · exact yy_fin.ic rfl (fun _ => js_sub2 ot h1 h2 hB hz fun _ => hb) (fun c => absurd (y_ne fun e => hb ((y_eqi (by omega) (by omega)).mp e)) c)
  refine yy_fin.ic rfl (fun c => absurd ((y_eqi (by omega) (by omega)).mpr hb) (of_decide_eq_true c)) (fun c => ?_)
  refine yy_fin.steps (n := 1) (s' := (21, [some (.ref k), some (.int (Int32.ofNat a)), some (.int (Int32.ofNat b)), some (.int (Int32.ofNat l.length)), none], [.ref k], h)) rfl ?_
  exact yy_fin.at (n := 1) rfl ⟨k, rfl, yx.rf.wk (fun _ _ e => e) (Nat.zero_le _) (Nat.zero_le _), v, by rw [ha, hb, List.drop_zero, Nat.sub_zero, List.take_length]; exact ot⟩
theorem js_subF {a : Nat} (ot : yT h k v l) (h1 : a ≤ l.length) (hB : h.1.1 + 2 < yy_B) (hz : zz_Zr h) : yy_fin X 334 (0, zz_in [.ref k, .int (Int32.ofNat a)] (zz_nl 334), [], h) (fun r h' => ∃ p, r = some (.ref p) ∧ yx yF 2 (l.length - a + 4) h h' ∧ yS h' p (l.drop a)) := by
  have hB0 : h.1.1 < yy_B := by omega
  refine yy_fin.steps (n := 3) (s' := (3, [some (.ref k), some (.int (Int32.ofNat a))], [.ref k, .int (Int32.ofNat a), .ref k], h)) rfl ?_
  refine yy_fin.ct (as := []) rfl (by decide) rfl rfl ot hB0 (Nat.le_of_ble_eq_true rfl) (Nat.le_of_ble_eq_true rfl) (js_len ot hB0) ?_
  rintro v h ⟨rfl, rfl⟩
  refine yy_fin.ct (as := [.int (Int32.ofNat a), .int (Int32.ofNat l.length)]) rfl (by decide) rfl rfl ot hB0 (Nat.le_of_ble_eq_true rfl) (Nat.le_of_ble_eq_true rfl) (js_sub ot h1 (Nat.le_refl _) hB hz) ?_
  rintro v k1 ⟨p, rfl, x1, t1⟩
  exact yy_fin.at (n := 1) rfl ⟨p, rfl, x1, by rw [show (l.drop a).take (l.length - a) = l.drop a from List.take_of_length_le (by rw [List.length_drop]; omega)] at t1; exact t1⟩
theorem js_can2 {x : Int32} (hx : 0 ≤ x.toInt ∧ x.toInt ≤ 127) : yy_fin X 340 (0, zz_in [.int x] (zz_nl 340), [], h) (fun r h' => r = some (.int 1) ∧ h' = h) := by
  refine yy_fin.steps (n := 1) (s' := (1, [some (.int x)], [.int x], h)) rfl ?_
  refine yy_fin.if rfl (fun c => absurd (Int32.lt_iff_toInt_lt.mp (of_decide_eq_true c)) (by rw [show (0 : Int32).toInt = 0 from rfl]; omega)) (fun c => ?_)
  refine yy_fin.steps (n := 2) (s' := (8, [some (.int x)], [.int 255, .int x], h)) rfl ?_
  refine yy_fin.ic rfl (fun c => absurd (Int32.lt_iff_toInt_lt.mp (of_decide_eq_true c)) (by rw [show (255 : Int32).toInt = 255 from rfl]; omega)) (fun c => ?_)
  refine yy_fin.steps (n := 2) (s' := (16, [some (.int x)], [.int 1], h)) rfl ?_
  exact yy_fin.ret2 rfl rfl (Or.inr rfl) ⟨rfl, rfl⟩
theorem js_ixL {j : Nat} {x : Int32} (q : yV h v w) (hA : yA w) (hl : w.length < 100000) (hB : h.1.1 < yy_B) (hj : w[j]? = some x) (hf : ∀ i, i < j → w[i]? ≠ some x) : ∀ d i, i + d = j → yy_fin X 342 (7, [some (.ref v), some (.int x), some (.int 0), some (.int (Int32.ofNat w.length)), some (.int x), some (.int (Int32.ofNat i))], [], h) (fun r h' => r = some (.int (Int32.ofNat j)) ∧ h' = h)
  | 0, i, e => by
    obtain rfl : i = j := e
    have hjl : i < w.length := (List.getElem?_eq_some_iff.mp hj).1
    refine yy_fin.steps (n := 2) (s' := (10, [some (.ref v), some (.int x), some (.int 0), some (.int (Int32.ofNat w.length)), some (.int x), some (.int (Int32.ofNat i))], [.int (Int32.ofNat w.length), .int (Int32.ofNat i)], h)) rfl ?_
    refine yy_fin.ic rfl (fun c => absurd ((y_lei (by omega) (by omega)).mp (of_decide_eq_true c)) (by omega)) (fun c => ?_)
    refine yy_fin.steps (n := 2) (s' := (16, [some (.ref v), some (.int x), some (.int 0), some (.int (Int32.ofNat w.length)), some (.int x), some (.int (Int32.ofNat i))], [.int (Int32.ofNat i), .ref v], h)) rfl ?_
    refine yy_fin.vb rfl q hB (y_inb (by omega) (by omega)) (y_cl (by omega)) hj ?_
    refine yy_fin.steps (n := 1) (s' := (19, [some (.ref v), some (.int x), some (.int 0), some (.int (Int32.ofNat w.length)), some (.int x), some (.int (Int32.ofNat i))], [.int x, .int x], h)) rfl ?_
    refine yy_fin.ic rfl (fun c => absurd rfl (of_decide_eq_true c)) (fun c => ?_)
    refine yy_fin.steps (n := 1) (s' := (24, [some (.ref v), some (.int x), some (.int 0), some (.int (Int32.ofNat w.length)), some (.int x), some (.int (Int32.ofNat i))], [.int (Int32.ofNat i)], h)) rfl ?_
    exact yy_fin.at (n := 1) rfl ⟨rfl, rfl⟩
  | d + 1, i, e => by
    have hjl : j < w.length := (List.getElem?_eq_some_iff.mp hj).1
    obtain ⟨y, hy⟩ : ∃ y, w[i]? = some y := ⟨_, List.getElem?_eq_getElem (by omega)⟩
    refine yy_fin.steps (n := 2) (s' := (10, [some (.ref v), some (.int x), some (.int 0), some (.int (Int32.ofNat w.length)), some (.int x), some (.int (Int32.ofNat i))], [.int (Int32.ofNat w.length), .int (Int32.ofNat i)], h)) rfl ?_
    refine yy_fin.ic rfl (fun c => absurd ((y_lei (by omega) (by omega)).mp (of_decide_eq_true c)) (by omega)) (fun c => ?_)
    refine yy_fin.steps (n := 2) (s' := (16, [some (.ref v), some (.int x), some (.int 0), some (.int (Int32.ofNat w.length)), some (.int x), some (.int (Int32.ofNat i))], [.int (Int32.ofNat i), .ref v], h)) rfl ?_
    refine yy_fin.vb rfl q hB (y_inb (by omega) (by omega)) (y_cl (by omega)) hy ?_
    refine yy_fin.steps (n := 1) (s' := (19, [some (.ref v), some (.int x), some (.int 0), some (.int (Int32.ofNat w.length)), some (.int x), some (.int (Int32.ofNat i))], [.int x, .int y], h)) rfl ?_
    refine yy_fin.ic rfl (fun c => ?_) (fun c => absurd (y_ne fun e => hf i (by omega) (by rw [hy, e])) c)
    refine yy_fin.steps (n := 1) (s' := (28, [some (.ref v), some (.int x), some (.int 0), some (.int (Int32.ofNat w.length)), some (.int x), some (.int (Int32.ofNat i + 1))], [], h)) rfl ?_
    rw [show Int32.ofNat i + 1 = Int32.ofNat (i + 1) from y_ad i 1]
    refine yy_fin.steps (n := 1) (s' := (7, [some (.ref v), some (.int x), some (.int 0), some (.int (Int32.ofNat w.length)), some (.int x), some (.int (Int32.ofNat (i + 1)))], [], h)) rfl ?_
    exact js_ixL q hA hl hB hj hf d (i + 1) (by omega)
theorem js_ix1 {j : Nat} {x : Int32} (q : yV h v w) (hA : yA w) (hl : w.length < 100000) (hB : h.1.1 < yy_B) (hj : w[j]? = some x) (hf : ∀ i, i < j → w[i]? ≠ some x) : yy_fin X 342 (0, zz_in [.ref v, .int x, .int 0, .int (Int32.ofNat w.length)] (zz_nl 342), [], h) (fun r h' => r = some (.int (Int32.ofNat j)) ∧ h' = h) := by
  refine yy_fin.steps (n := 1) (s' := (1, [some (.ref v), some (.int x), some (.int 0), some (.int (Int32.ofNat w.length)), none, none], [.int x], h)) rfl ?_
  refine yy_fin.steps (n := 1) (s' := (2, [some (.ref v), some (.int x), some (.int 0), some (.int (Int32.ofNat w.length)), none, none], [.int x.toInt8.toInt32], h)) rfl ?_
  rw [y_i2b (hA x (List.mem_of_getElem? hj))]
  refine yy_fin.steps (n := 3) (s' := (7, [some (.ref v), some (.int x), some (.int 0), some (.int (Int32.ofNat w.length)), some (.int x), some (.int 0)], [], h)) rfl ?_
  exact js_ixL q hA hl hB hj hf j 0 (by omega)
theorem js_ix2 {j : Nat} {x : Int32} (q : yV h v w) (hA : yA w) (hl : w.length < 100000) (hB : h.1.1 < yy_B) (hj : w[j]? = some x) (hf : ∀ i, i < j → w[i]? ≠ some x) : yy_fin X 341 (0, zz_in [.ref v, .int x, .int 0, .int (Int32.ofNat w.length)] (zz_nl 341), [], h) (fun r h' => r = some (.int (Int32.ofNat j)) ∧ h' = h) := by
  have hjl : j < w.length := (List.getElem?_eq_some_iff.mp hj).1
  refine yy_fin.steps (n := 1) (s' := (1, [some (.ref v), some (.int x), some (.int 0), some (.int (Int32.ofNat w.length))], [.int x], h)) rfl ?_
  refine yy_fin.calls (as := [.int x]) rfl (by decide) rfl rfl (Nat.le_of_ble_eq_true rfl) (Nat.le_of_ble_eq_true rfl) (js_can2 (hA x (List.mem_of_getElem? hj))) ?_
  rintro v h ⟨rfl, rfl⟩
  refine yy_fin.if rfl (fun cK => ?_) (fun cK => absurd (by decide) cK)
  refine yy_fin.steps (n := 3) (s' := (14, [some (.ref v), some (.int x), some (.int 0), some (.int (Int32.ofNat w.length))], [.int (if (0 : Int32) < 0 then 0 else 0)], h)) rfl ?_
  rw [show (if (0 : Int32) < 0 then (0 : Int32) else 0) = 0 by decide]
  refine yy_fin.steps (n := 3) (s' := (17, [some (.ref v), some (.int x), some (.int 0), some (.int (Int32.ofNat w.length))], [.ref v, .int (Int32.ofNat w.length)], h)) rfl ?_
  refine yy_fin.vl rfl q hB ?_
  refine yy_fin.steps (n := 1) (s' := (21, [some (.ref v), some (.int x), some (.int 0), some (.int (Int32.ofNat w.length))], [.int (if Int32.ofNat w.length < Int32.ofNat w.length then Int32.ofNat w.length else Int32.ofNat w.length)], h)) rfl ?_
  rw [ite_self]
  refine yy_fin.steps (n := 3) (s' := (24, [some (.ref v), some (.int x), some (.int 0), some (.int (Int32.ofNat w.length))], [.int (Int32.ofNat w.length), .int 0], h)) rfl ?_
  refine yy_fin.ic rfl (fun c => ?_) (fun c => absurd (decide_eq_true ((y_lt (a := 0) (by omega) (by omega)).mpr (by omega))) c)
  refine yy_fin.steps (n := 4) (s' := (33, [some (.ref v), some (.int x), some (.int 0), some (.int (Int32.ofNat w.length))], [.int (Int32.ofNat w.length), .int 0, .int x, .ref v], h)) rfl ?_
  refine yy_fin.calls (as := [.ref v, .int x, .int 0, .int (Int32.ofNat w.length)]) rfl (by decide) rfl rfl (Nat.le_of_ble_eq_true rfl) (Nat.le_of_ble_eq_true rfl) (js_ix1 q hA hl hB hj hf) ?_
  rintro v h ⟨rfl, rfl⟩
  exact yy_fin.at (n := 1) rfl ⟨rfl, rfl⟩
theorem js_ix3 {j : Nat} {x : Int32} (ot : yT h k v w) (hB : h.1.1 < yy_B) (hj : w[j]? = some x) (hf : ∀ i, i < j → w[i]? ≠ some x) : yy_fin X 333 (0, zz_in [.ref k, .int x, .int 0] (zz_nl 333), [], h) (fun r h' => r = some (.int (Int32.ofNat j)) ∧ h' = h) := by
  refine yy_fin.steps (n := 1) (s' := (1, [some (.ref k), some (.int x), some (.int 0)], [.ref k], h)) rfl ?_
  refine yy_fin.ct (as := []) rfl (by decide) rfl rfl ot hB (Nat.le_of_ble_eq_true rfl) (Nat.le_of_ble_eq_true rfl) (js_lat ot hB) ?_
  rintro v h ⟨rfl, rfl⟩
  refine yy_fin.if rfl (fun cK => absurd cK (by decide)) (fun cK => ?_)
  refine yy_fin.steps (n := 1) (s' := (8, [some (.ref k), some (.int x), some (.int 0)], [.ref k], h)) rfl ?_
  refine yy_fin.tv rfl ot hB ?_
  refine yy_fin.steps (n := 3) (s' := (14, [some (.ref k), some (.int x), some (.int 0)], [.ref k, .int 0, .int x, .ref v], h)) rfl ?_
  refine yy_fin.ct (as := []) rfl (by decide) rfl rfl ot hB (Nat.le_of_ble_eq_true rfl) (Nat.le_of_ble_eq_true rfl) (js_len ot hB) ?_
  rintro v h ⟨rfl, rfl⟩
  refine yy_fin.calls (as := [.ref v, .int x, .int 0, .int (Int32.ofNat w.length)]) rfl (by decide) rfl rfl (Nat.le_of_ble_eq_true rfl) (Nat.le_of_ble_eq_true rfl) (js_ix2 ot.1 ot.2.1 ot.2.2.1 hB hj hf) ?_
  rintro v h ⟨rfl, rfl⟩
  refine yy_fin.steps (n := 1) (s' := (36, [some (.ref k), some (.int x), some (.int 0)], [.int (Int32.ofNat j)], h)) rfl ?_
  exact yy_fin.at (n := 1) rfl ⟨rfl, rfl⟩
theorem js_ix {j : Nat} {x : Int32} (ot : yT h k v w) (hB : h.1.1 < yy_B) (hj : w[j]? = some x) (hf : ∀ i, i < j → w[i]? ≠ some x) : yy_fin X 332 (0, zz_in [.ref k, .int x] (zz_nl 332), [], h) (fun r h' => r = some (.int (Int32.ofNat j)) ∧ h' = h) := by
  refine yy_fin.steps (n := 3) (s' := (3, [some (.ref k), some (.int x)], [.int 0, .int x, .ref k], h)) rfl ?_
  refine yy_fin.ct (as := [.int x, .int 0]) rfl (by decide) rfl rfl ot hB (Nat.le_of_ble_eq_true rfl) (Nat.le_of_ble_eq_true rfl) (js_ix3 ot hB hj hf) ?_
  rintro v h ⟨rfl, rfl⟩
  exact yy_fin.at (n := 1) rfl ⟨rfl, rfl⟩
end YJ3
