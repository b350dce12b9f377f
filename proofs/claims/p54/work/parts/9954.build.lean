/-! THE JDK: a text that is built (printed by wip/p54/j2.py) -/
theorem y_ne {a b : Int32} (h : a ≠ b) : zz_cmp .ne a b = true := decide_eq_true h
theorem y_ne0 {a : Int32} (h : a ≠ 0) : zz_cond .ne a = true := decide_eq_true h
theorem y_cA {n : Nat} : (Int32.ofNat n).toNatClampNeg = n ∨ 2147483648 ≤ n := by
  rcases Nat.lt_or_ge n 2147483648 with h | h
  · exact Or.inl (y_cl h)
  · exact Or.inr h
theorem y_ad (a b : Nat) : Int32.ofNat a + Int32.ofNat b = Int32.ofNat (a + b) := (Int32.ofNat_add a b).symm
theorem y_sb {a b : Nat} (h : b ≤ a) : Int32.ofNat a - Int32.ofNat b = Int32.ofNat (a - b) := pk_sub (a := a) (b := b) h
theorem y_lt {a b : Nat} (ha : a < 2147483648) (hb : b < 2147483648) : Int32.ofNat a < Int32.ofNat b ↔ a < b := by
  rw [Int32.lt_iff_toInt_lt, y_nI ha, y_nI hb]
  omega
theorem y_lei {a b : Nat} (ha : a < 2147483648) (hb : b < 2147483648) : Int32.ofNat a ≤ Int32.ofNat b ↔ a ≤ b := by
  rw [Int32.le_iff_toInt_le, y_nI ha, y_nI hb]
  omega
theorem y_eqi {a b : Nat} (ha : a < 2147483648) (hb : b < 2147483648) : Int32.ofNat a = Int32.ofNat b ↔ a = b := by
  rw [← Int32.toInt_inj, y_nI ha, y_nI hb]
  omega
theorem yO.ne {h : zz_H} {a b c d : Nat} {f g : List (Option (Option Nat))} (o : yO h a c f) (p : yO h b d g) (hn : c ≠ d) : a ≠ b := fun e => by
  subst e
  have h1 := (zz_obj_ok o.2.2).2
  have h2 := (zz_obj_ok p.2.2).2
  rw [h1] at h2
  exact hn (congrArg Prod.fst (Sum.inr.inj (Sum.inr.inj h2)))
theorem yY.neO {h : zz_H} {a b n d : Nat} {g : List (Option (Option Nat))} (o : yY h a n) (p : yO h b d g) : a ≠ b := fun e => by
  subst e
  have h1 := (zz_arr_ok o.2.2).2
  have h2 := (zz_obj_ok p.2.2).2
  rw [h1] at h2
  cases h2
theorem yT.ne {h : zz_H} {s v k : Nat} {l : List Int32} {g : List (Option (Option Nat))} (o : yT h s v l) (p : yO h k 13 g) : s ≠ k ∧ v ≠ k := by
  obtain ⟨o1, -, -, o4⟩ := o
  have e0 := p.2.1
  refine ⟨?_, ?_⟩
  · rcases o4 with ⟨q, -⟩ | ⟨q, -⟩
    · exact q.ne p (by decide)
    · omega
  · rcases o1 with ⟨q, -⟩ | ⟨q, -⟩
    · exact q.neO p
    · omega
section YJ2
variable {X : yy_X} {h : zz_H} {k v z s vs : Nat} {l t w : List Int32}
theorem js_newL {m g p : Nat} (hm : m ≤ 1000000) (hg : g ≤ 1000000) (hp : p ≤ 1000000) (h0 : 0 < m + max g p) : yy_fin X 316 (0, zz_in [.int (Int32.ofNat m), .int (Int32.ofNat g), .int (Int32.ofNat p)] (zz_nl 316), [], h) (fun r h' => r = some (.int (Int32.ofNat (m + max g p))) ∧ h' = h) := by
  refine yy_fin.steps (n := 8) (s' := (10, [some (.int (Int32.ofNat m)), some (.int (Int32.ofNat g)), some (.int (Int32.ofNat p)), some (.int ((Int32.ofNat m) + (if (Int32.ofNat g) < (Int32.ofNat p) then (Int32.ofNat p) else (Int32.ofNat g))))], [.int ((Int32.ofNat m) + (if (Int32.ofNat g) < (Int32.ofNat p) then (Int32.ofNat p) else (Int32.ofNat g))), .int 0], h)) rfl ?_
  have e1 : Int32.ofNat m + (if Int32.ofNat g < Int32.ofNat p then Int32.ofNat p else Int32.ofNat g) = Int32.ofNat (m + max g p) := by
    by_cases c : g < p
    · rw [if_pos ((y_lt (by omega) (by omega)).mpr c), y_ad, Nat.max_eq_right (by omega)]
    · rw [if_neg (fun z => c ((y_lt (by omega) (by omega)).mp z)), y_ad, Nat.max_eq_left (by omega)]
  rw [e1]
  have e2 : max g p ≤ 1000000 := Nat.max_le.mpr ⟨hg, hp⟩
  refine yy_fin.ic rfl (fun c => absurd (of_decide_eq_true c) (nI_ge (a := 0) (b := m + max g p) (by omega) (by omega))) (fun c => ?_)
  refine yy_fin.steps (n := 2) (s' := (16, [some (.int (Int32.ofNat m)), some (.int (Int32.ofNat g)), some (.int (Int32.ofNat p)), some (.int (Int32.ofNat (m + max g p)))], [.int 2147483639, .int (Int32.ofNat (m + max g p))], h)) rfl ?_
  refine yy_fin.ic rfl (fun c => absurd (Int32.lt_iff_toInt_lt.mp (of_decide_eq_true c)) (by rw [y_nI (by omega)]; show ¬ (2147483639 : Int) < _; omega)) (fun c => ?_)
  refine yy_fin.steps (n := 1) (s' := (20, [some (.int (Int32.ofNat m)), some (.int (Int32.ofNat g)), some (.int (Int32.ofNat p)), some (.int (Int32.ofNat (m + max g p)))], [.int (Int32.ofNat (m + max g p))], h)) rfl ?_
  exact yy_fin.at (n := 1) rfl ⟨rfl, rfl⟩
theorem js_newC {q0 : Nat} (o : yO h k 13 [some (some v), none, none, none]) (c0 : h.2.2 k 1 = 0) (q : yW h v w) (h1 : w.length < q0) (h2 : q0 ≤ 20000) : yy_fin X 315 (0, zz_in [.ref k, .int (Int32.ofNat q0)] (zz_nl 315), [], h) (fun r h' => r = some (.int (Int32.ofNat (w.length + max (q0 - w.length) (w.length + 2)))) ∧ h' = h) := by
  refine yy_fin.steps (n := 1) (s' := (1, [some (.ref k), some (.int (Int32.ofNat q0)), none, none, none, none], [.ref k], h)) rfl ?_
  refine yy_fin.fr rfl o rfl ?_
  refine yy_fin.lb rfl q.1 ?_
  refine yy_fin.steps (n := 3) (s' := (8, [some (.ref k), some (.int (Int32.ofNat q0)), some (.int (Int32.ofNat w.length)), none, none, none], [.ref k, .int (Int32.ofNat q0)], h)) rfl ?_
  refine yy_fin.fi rfl o rfl c0 ?_
  refine yy_fin.steps (n := 1) (s' := (12, [some (.ref k), some (.int (Int32.ofNat q0)), some (.int (Int32.ofNat w.length)), none, none, none], [.int ((Int32.ofNat q0) <<< (0 &&& 31))], h)) rfl ?_
  rw [sb_shl0]
  refine yy_fin.steps (n := 3) (s' := (15, [some (.ref k), some (.int (Int32.ofNat q0)), some (.int (Int32.ofNat w.length)), some (.int (Int32.ofNat q0)), none, none], [.int (Int32.ofNat w.length), .int (Int32.ofNat q0)], h)) rfl ?_
  refine yy_fin.steps (n := 1) (s' := (16, [some (.ref k), some (.int (Int32.ofNat q0)), some (.int (Int32.ofNat w.length)), some (.int (Int32.ofNat q0)), none, none], [.int (Int32.ofNat q0 - Int32.ofNat w.length)], h)) rfl ?_
  rw [y_sb (by omega)]
  refine yy_fin.steps (n := 6) (s' := (24, [some (.ref k), some (.int (Int32.ofNat q0)), some (.int (Int32.ofNat w.length)), some (.int (Int32.ofNat q0)), some (.int (Int32.ofNat (q0 - w.length))), none], [.ref k, .int 2, .int (Int32.ofNat w.length), .int (Int32.ofNat (q0 - w.length)), .int (Int32.ofNat w.length)], h)) rfl ?_
  refine yy_fin.fi rfl o rfl c0 ?_
  refine yy_fin.steps (n := 2) (s' := (29, [some (.ref k), some (.int (Int32.ofNat q0)), some (.int (Int32.ofNat w.length)), some (.int (Int32.ofNat q0)), some (.int (Int32.ofNat (q0 - w.length))), none], [.int ((Int32.ofNat w.length) + ((2 : Int32) <<< ((0 : Int32) &&& 31))), .int (Int32.ofNat (q0 - w.length)), .int (Int32.ofNat w.length)], h)) rfl ?_
  rw [sb_shl0, show Int32.ofNat w.length + 2 = Int32.ofNat (w.length + 2) from y_ad w.length 2]
  refine yy_fin.calls (as := [.int (Int32.ofNat w.length), .int (Int32.ofNat (q0 - w.length)), .int (Int32.ofNat (w.length + 2))]) rfl (by decide) rfl rfl (Nat.le_of_ble_eq_true rfl) (Nat.le_of_ble_eq_true rfl) (js_newL (by omega) (by omega) (by omega) (by omega)) ?_
  rintro v h ⟨rfl, rfl⟩
  refine yy_fin.steps (n := 3) (s' := (38, [some (.ref k), some (.int (Int32.ofNat q0)), some (.int (Int32.ofNat w.length)), some (.int (Int32.ofNat q0)), some (.int (Int32.ofNat (q0 - w.length))), some (.int (Int32.ofNat (w.length + max (q0 - w.length) (w.length + 2))))], [.int 2147483647, .int (Int32.ofNat (w.length + max (q0 - w.length) (w.length + 2)))], h)) rfl ?_
  have e5 : max (q0 - w.length) (w.length + 2) ≤ 100000 := Nat.max_le.mpr ⟨by omega, by omega⟩
  refine yy_fin.ic rfl (fun c => ?_) (fun c => absurd (fun e => by have e := Int32.toInt_inj.mpr e; rw [y_nI (by omega), show (2147483647 : Int32).toInt = 2147483647 from rfl] at e; omega) (fun z => c (decide_eq_true z)))
  refine yy_fin.steps (n := 2) (s' := (54, [some (.ref k), some (.int (Int32.ofNat q0)), some (.int (Int32.ofNat w.length)), some (.int (Int32.ofNat q0)), some (.int (Int32.ofNat (q0 - w.length))), some (.int (Int32.ofNat (w.length + max (q0 - w.length) (w.length + 2))))], [.ref k, .int (Int32.ofNat (w.length + max (q0 - w.length) (w.length + 2)))], h)) rfl ?_
  refine yy_fin.fi rfl o rfl c0 ?_
  refine yy_fin.steps (n := 1) (s' := (58, [some (.ref k), some (.int (Int32.ofNat q0)), some (.int (Int32.ofNat w.length)), some (.int (Int32.ofNat q0)), some (.int (Int32.ofNat (q0 - w.length))), some (.int (Int32.ofNat (w.length + max (q0 - w.length) (w.length + 2))))], [.int ((Int32.ofNat (w.length + max (q0 - w.length) (w.length + 2))) >>> (0 &&& 31))], h)) rfl ?_
  rw [sb_shr0]
  exact yy_fin.at (n := 1) rfl ⟨rfl, rfl⟩
theorem js_copyOf {n : Nat} (q : yV h v w) (hA : yA w) (h1 : w.length < n) (h2 : n ≤ 50000) (hB : h.1.1 + 1 < yy_B) (hz : zz_Zr h) : yy_fin X 344 (0, zz_in [.ref v, .int (Int32.ofNat n)] (zz_nl 344), [], h) (fun r h' => r = some (.ref (h.1.1 + 1)) ∧ yx yF 1 n h h' ∧ h'.1.1 = h.1.1 + 1 ∧ yW h' (h.1.1 + 1) (w ++ List.replicate (n - w.length) 0)) := by
  have hB0 : h.1.1 < yy_B := by omega
  refine yy_fin.steps (n := 2) (s' := (2, [some (.ref v), some (.int (Int32.ofNat n)), none], [.ref v, .int (Int32.ofNat n)], h)) rfl ?_
  refine yy_fin.vl rfl q hB0 ?_
  refine yy_fin.ic rfl (fun c => ?_) (fun c => absurd (y_ne fun e => by have e := (y_eqi (by omega) (by omega)).mp e; omega) c)
  refine yy_fin.steps (n := 1) (s' := (15, [some (.ref v), some (.int (Int32.ofNat n)), none], [.int (Int32.ofNat n)], h)) rfl ?_
  refine yy_fin.nw rfl (nI_pos (n := n) (by omega)) (y_cl (by omega)) (by omega) (by omega) hz fun h1 x1 e1 q1 => ?_
  have qq := q.x x1 fun _ => id
  refine yy_fin.steps (n := 6) (s' := (23, [some (.ref v), some (.int (Int32.ofNat n)), some (.ref (h.1.1 + 1))], [.ref v, .int 0, .ref (h.1.1 + 1), .int 0, .ref v], h1)) rfl ?_
  refine yy_fin.vl rfl qq (by omega) ?_
  refine yy_fin.steps (n := 2) (s' := (28, [some (.ref v), some (.int (Int32.ofNat n)), some (.ref (h.1.1 + 1))], [.int (if (Int32.ofNat n) < (Int32.ofNat w.length) then (Int32.ofNat n) else (Int32.ofNat w.length)), .int 0, .ref (h.1.1 + 1), .int 0, .ref v], h1)) rfl ?_
  have e3 : (if Int32.ofNat n < Int32.ofNat w.length then Int32.ofNat n else Int32.ofNat w.length) = Int32.ofNat w.length := if_neg fun z => by have z := (y_lt (by omega) (by omega)).mp z; omega
  rw [e3]
  refine yy_fin.cw rfl qq (by omega) q1 (s := 0) (d := 0) (cnt := w.length) ⟨rfl, by decide⟩ ⟨rfl, by decide⟩ (y_clp (by omega)) (by omega) (by rw [List.length_replicate]; omega) (Nat.le_of_ble_eq_true rfl) hA fun h2 x2 q2 => ?_
  rw [List.drop_zero, List.take_zero, List.nil_append, List.take_length, Nat.zero_add, List.drop_replicate] at q2
  refine yy_fin.steps (n := 1) (s' := (32, [some (.ref v), some (.int (Int32.ofNat n)), some (.ref (h.1.1 + 1))], [.ref (h.1.1 + 1)], h2)) rfl ?_
  exact yy_fin.at (n := 1) rfl ⟨rfl, (x1.tr x2 (fun q hq e => by omega)).le (Nat.le_refl _) (Nat.le_refl _), (by have a1 := x2.1; omega), q2⟩
theorem y_subT {a b : Int32} (h1 : -2147483648 ≤ a.toInt - b.toInt) (h2 : a.toInt - b.toInt ≤ 2147483647) : (a - b).toInt = a.toInt - b.toInt := by
  rw [Int32.toInt_sub]
  exact Int.bmod_eq_of_le (by omega) (by omega)
theorem y_addT {a b : Int32} (h1 : -2147483648 ≤ a.toInt + b.toInt) (h2 : a.toInt + b.toInt ≤ 2147483647) : (a + b).toInt = a.toInt + b.toInt := by
  rw [Int32.toInt_add]
  exact Int.bmod_eq_of_le (by omega) (by omega)
theorem y_dle {a b : Nat} (ha : a < 1000000) (hb : b < 1000000) (h : a ≤ b) : Int32.ofNat a - Int32.ofNat b ≤ 0 := by
  rw [Int32.le_iff_toInt_le, y_subT (by rw [y_nI (by omega), y_nI (by omega)]; omega) (by rw [y_nI (by omega), y_nI (by omega)]; omega), y_nI (by omega), y_nI (by omega), show (0 : Int32).toInt = 0 from rfl]
  omega
theorem y_ndle {a b : Nat} (ha : a < 1000000) (hb : b < 1000000) (h : b < a) : ¬ Int32.ofNat a - Int32.ofNat b ≤ 0 := by
  rw [Int32.le_iff_toInt_le, y_subT (by rw [y_nI (by omega), y_nI (by omega)]; omega) (by rw [y_nI (by omega), y_nI (by omega)]; omega), y_nI (by omega), y_nI (by omega), show (0 : Int32).toInt = 0 from rfl]
  omega
theorem js_ens {q0 : Nat} (o : yO h k 13 [some (some v), none, none, none]) (c0 : h.2.2 k 1 = 0) (q : yW h v w) (hA : yA w) (hw : w.length ≤ 50000) (hq0 : q0 ≤ 20000) (hB : h.1.1 + 1 < yy_B) (hz : zz_Zr h) : yy_fin X 314 (0, zz_in [.ref k, .int (Int32.ofNat q0)] (zz_nl 314), [], h) (fun r h' => r = none ∧ ∃ v' w2, yx (fun q => q = k) 1 (2 * q0 + 2) h h' ∧ yO h' k 13 [some (some v'), none, none, none] ∧ (∀ j, h'.2.2 k j = h.2.2 k j) ∧ yW h' v' (w ++ w2) ∧ yA w2 ∧ q0 ≤ (w ++ w2).length ∧ (w ++ w2).length ≤ 50000 ∧ (v' = v ∨ v' = h.1.1 + 1)) := by
  refine yy_fin.steps (n := 1) (s' := (1, [some (.ref k), some (.int (Int32.ofNat q0)), none], [.ref k], h)) rfl ?_
  refine yy_fin.fr rfl o rfl ?_
  refine yy_fin.lb rfl q.1 ?_
  refine yy_fin.steps (n := 1) (s' := (6, [some (.ref k), some (.int (Int32.ofNat q0)), none], [.ref k, .int (Int32.ofNat w.length)], h)) rfl ?_
  refine yy_fin.fi rfl o rfl c0 ?_
  refine yy_fin.steps (n := 1) (s' := (10, [some (.ref k), some (.int (Int32.ofNat q0)), none], [.int ((Int32.ofNat w.length) >>> (0 &&& 31))], h)) rfl ?_
  rw [sb_shr0]
  refine yy_fin.steps (n := 4) (s' := (14, [some (.ref k), some (.int (Int32.ofNat q0)), some (.int (Int32.ofNat w.length))], [.int ((Int32.ofNat q0) - (Int32.ofNat w.length))], h)) rfl ?_
  by_cases hq : q0 ≤ w.length
  · refine yy_fin.if rfl (fun _ => ?_) (fun c => absurd (decide_eq_true (y_dle (by omega) (by omega) hq)) c)
    exact yy_fin.at (n := 1) rfl ⟨rfl, v, [], yx.rf.wk (fun _ _ e => e) (Nat.zero_le _) (Nat.zero_le _), o, fun _ => rfl, by rw [List.append_nil]; exact q, fun x hx => absurd hx List.not_mem_nil, by rw [List.append_nil]; exact hq, by rw [List.append_nil]; exact hw, Or.inl rfl⟩
  · have hq : w.length < q0 := Nat.not_le.mp hq
    refine yy_fin.if rfl (fun c => absurd (of_decide_eq_true c) (y_ndle (by omega) (by omega) hq)) (fun _ => ?_)
    refine yy_fin.steps (n := 2) (s' := (19, [some (.ref k), some (.int (Int32.ofNat q0)), some (.int (Int32.ofNat w.length))], [.ref k, .ref k], h)) rfl ?_
    refine yy_fin.fr rfl o rfl ?_
    refine yy_fin.steps (n := 2) (s' := (24, [some (.ref k), some (.int (Int32.ofNat q0)), some (.int (Int32.ofNat w.length))], [.int (Int32.ofNat q0), .ref k, .ref v, .ref k], h)) rfl ?_
    refine yy_fin.cv (as := [.int (Int32.ofNat q0)]) rfl rfl rfl o (Nat.le_of_ble_eq_true rfl) (Nat.le_of_ble_eq_true rfl) (js_newC o c0 q hq hq0) ?_
    rintro v h ⟨rfl, rfl⟩
    refine yy_fin.steps (n := 1) (s' := (28, [some (.ref k), some (.int (Int32.ofNat q0)), some (.int (Int32.ofNat w.length))], [.ref k, .int (Int32.ofNat (w.length + max (q0 - w.length) (w.length + 2))), .ref v, .ref k], h)) rfl ?_
    refine yy_fin.fi rfl o rfl c0 ?_
    refine yy_fin.steps (n := 1) (s' := (32, [some (.ref k), some (.int (Int32.ofNat q0)), some (.int (Int32.ofNat w.length))], [.int ((Int32.ofNat (w.length + max (q0 - w.length) (w.length + 2))) <<< (0 &&& 31)), .ref v, .ref k], h)) rfl ?_
    rw [sb_shl0]
    have hc1 : w.length + max (q0 - w.length) (w.length + 2) ≤ 2 * q0 + 2 := by have : max (q0 - w.length) (w.length + 2) ≤ q0 + 2 - w.length + w.length := Nat.max_le.mpr ⟨by omega, by omega⟩; rcases Nat.le_total (q0 - w.length) (w.length + 2) with e | e <;> first | rw [Nat.max_eq_right e]; omega | rw [Nat.max_eq_left e]; omega
    have hc2 : q0 ≤ w.length + max (q0 - w.length) (w.length + 2) := by have : q0 - w.length ≤ max (q0 - w.length) (w.length + 2) := Nat.le_max_left _ _; omega
    refine yy_fin.calls (as := [.ref v, .int (Int32.ofNat (w.length + max (q0 - w.length) (w.length + 2)))]) rfl (by decide) rfl rfl (Nat.le_of_ble_eq_true rfl) (Nat.le_of_ble_eq_true rfl) (js_copyOf q.v hA (by omega) (by omega) hB hz) ?_
    rintro v h1 ⟨rfl, x1, e1, q1⟩
    have o1 := o.x x1 id
    refine yy_fin.wr rfl o1 rfl fun h2 x2 o2 i2 => ?_
    exact yy_fin.at (n := 1) rfl ⟨rfl, h.1.1 + 1, List.replicate (w.length + max (q0 - w.length) (w.length + 2) - w.length) 0, ((x1.wk (B := fun q => q = k) (fun _ _ e => e.elim) (Nat.le_refl _) (Nat.le_refl _)).tr x2 (fun q _ e => e)).le (Nat.le_refl _) (by omega), o2, fun j => (i2 j).trans (o.i x1 id j), q1.x x2 (fun e => by have := o.le; omega), yA_rep _, by rw [List.length_append, List.length_replicate]; omega, by rw [List.length_append, List.length_replicate]; omega, Or.inr rfl⟩
theorem js_blat (o : yO h k 13 [some (some v), none, none, none]) (c0 : h.2.2 k 1 = 0) : yy_fin X 317 (0, zz_in [.ref k] (zz_nl 317), [], h) (fun r h' => r = some (.int 1) ∧ h' = h) := by
  refine yy_fin.steps (n := 1) (s' := (3, [some (.ref k)], [.int 1], h)) rfl ?_
  refine yy_fin.if rfl (fun cK => absurd cK (by decide)) (fun cK => ?_)
  refine yy_fin.steps (n := 1) (s' := (7, [some (.ref k)], [.ref k], h)) rfl ?_
  refine yy_fin.fi rfl o rfl c0 ?_
  refine yy_fin.if rfl (fun cK => absurd cK (by decide)) (fun cK => ?_)
  refine yy_fin.steps (n := 2) (s' := (18, [some (.ref k)], [.int 1], h)) rfl ?_
  exact yy_fin.at (n := 1) rfl ⟨rfl, rfl⟩
theorem js_infl (o : yO h k 13 [some (some v), none, none, none]) (c0 : h.2.2 k 1 = 0) (ot : yT h s vs t) (hB : h.1.1 < yy_B) : yy_fin X 319 (0, zz_in [.ref k, .ref s] (zz_nl 319), [], h) (fun r h' => r = none ∧ h' = h) := by
  refine yy_fin.steps (n := 1) (s' := (3, [some (.ref k), some (.ref s)], [.int 1], h)) rfl ?_
  refine yy_fin.if rfl (fun cK => absurd cK (by decide)) (fun cK => ?_)
  refine yy_fin.steps (n := 1) (s' := (7, [some (.ref k), some (.ref s)], [.ref k], h)) rfl ?_
  refine yy_fin.fi rfl o rfl c0 ?_
  refine yy_fin.steps (n := 1) (s' := (11, [some (.ref k), some (.ref s)], [.ref s, .int 0], h)) rfl ?_
  refine yy_fin.ct (as := []) rfl (by decide) rfl rfl ot hB (Nat.le_of_ble_eq_true rfl) (Nat.le_of_ble_eq_true rfl) (js_coder ot hB) ?_
  rintro v h ⟨rfl, rfl⟩
  refine yy_fin.ic rfl (fun cK => ?_) (fun cK => absurd (by decide) cK)
  exact yy_fin.at (n := 1) rfl ⟨rfl, rfl⟩
theorem js_putS {d : Nat} (o : yO h k 13 [some (some v), none, none, none]) (c0 : h.2.2 k 1 = 0) (ot : yT h s vs t) (q : yW h v w) (hB : h.1.1 < yy_B) (hd : d + t.length ≤ w.length) (hw : w.length ≤ 50000) : yy_fin X 318 (0, zz_in [.ref k, .int (Int32.ofNat d), .ref s] (zz_nl 318), [], h) (fun r h' => r = none ∧ yx (fun q => q = v) 0 0 h h' ∧ yW h' v (w.take d ++ (t ++ w.drop (d + t.length)))) := by
  refine yy_fin.steps (n := 2) (s' := (2, [some (.ref k), some (.int (Int32.ofNat d)), some (.ref s)], [.ref s, .ref k], h)) rfl ?_
  refine yy_fin.cv (as := [.ref s]) rfl rfl rfl o (Nat.le_of_ble_eq_true rfl) (Nat.le_of_ble_eq_true rfl) (js_infl o c0 ot hB) ?_
  rintro v h ⟨rfl, rfl⟩
  refine yy_fin.steps (n := 2) (s' := (7, [some (.ref k), some (.int (Int32.ofNat d)), some (.ref s)], [.ref k, .ref s], h)) rfl ?_
  refine yy_fin.fr rfl o rfl ?_
  refine yy_fin.steps (n := 2) (s' := (12, [some (.ref k), some (.int (Int32.ofNat d)), some (.ref s)], [.ref k, .int (Int32.ofNat d), .ref v, .ref s], h)) rfl ?_
  refine yy_fin.fi rfl o rfl c0 ?_
  refine yy_fin.ct (as := [.ref v, .int (Int32.ofNat d), .int 0]) rfl (by decide) rfl rfl ot hB (Nat.le_of_ble_eq_true rfl) (Nat.le_of_ble_eq_true rfl) (js_getB ot hB q hd (by omega)) ?_
  rintro v h1 ⟨rfl, x1, q1⟩
  exact yy_fin.at (n := 1) rfl ⟨rfl, x1, q1⟩
theorem js_apS (hb : yB h z k l) (ot : yT h s vs t) (hlt : l.length + t.length ≤ 20000) (hB : h.1.1 + 1 < yy_B) (hz : zz_Zr h) : yy_fin X 311 (0, zz_in [.ref k, .ref s] (zz_nl 311), [], h) (fun r h' => r = some (.ref k) ∧ yx (fun q => z < q) 1 (2 * (l.length + t.length) + 2) h h' ∧ yB h' z k (l ++ t)) := by
  obtain ⟨v, l2, zv, o, c0, n0, q, hA, hw⟩ := hb
  have hB0 : h.1.1 < yy_B := by omega
  refine yy_fin.steps (n := 3) (s' := (10, [some (.ref k), some (.ref s), none], [.ref s], h)) rfl ?_
  refine yy_fin.ct (as := []) rfl (by decide) rfl rfl ot hB0 (Nat.le_of_ble_eq_true rfl) (Nat.le_of_ble_eq_true rfl) (js_len ot hB0) ?_
  rintro v h ⟨rfl, rfl⟩
  refine yy_fin.steps (n := 3) (s' := (16, [some (.ref k), some (.ref s), some (.int (Int32.ofNat t.length))], [.ref k, .ref k], h)) rfl ?_
  refine yy_fin.fi rfl o rfl n0 ?_
  refine yy_fin.steps (n := 1) (s' := (20, [some (.ref k), some (.ref s), some (.int (Int32.ofNat t.length))], [.int (Int32.ofNat t.length), .int (Int32.ofNat l.length), .ref k], h)) rfl ?_
  refine yy_fin.steps (n := 1) (s' := (21, [some (.ref k), some (.ref s), some (.int (Int32.ofNat t.length))], [.int ((Int32.ofNat l.length) + (Int32.ofNat t.length)), .ref k], h)) rfl ?_
  rw [y_ad]
  refine yy_fin.cv (as := [.int (Int32.ofNat (l.length + t.length))]) rfl rfl rfl o (Nat.le_of_ble_eq_true rfl) (Nat.le_of_ble_eq_true rfl) (js_ens o c0 q (hA : yA (l ++ l2)) hw hlt hB hz) ?_
  rintro v h1 ⟨rfl, v1, w2, x1, o1, i1, q1, a1, m1, m2, hv1⟩
  refine yy_fin.steps (n := 2) (s' := (26, [some (.ref k), some (.ref s), some (.int (Int32.ofNat t.length))], [.ref k, .ref k], h1)) rfl ?_
  refine yy_fin.fi rfl o1 rfl ((i1 3).trans n0) ?_
  refine yy_fin.steps (n := 1) (s' := (30, [some (.ref k), some (.ref s), some (.int (Int32.ofNat t.length))], [.ref s, .int (Int32.ofNat l.length), .ref k], h1)) rfl ?_
  have hne := ot.ne o
  have ot1 := ot.z x1 (fun _ => hne.1) (fun _ => hne.2)
  have hB1 : h1.1.1 < yy_B := by have := x1.1; omega
  refine yy_fin.cv (as := [.int (Int32.ofNat l.length), .ref s]) rfl rfl rfl o1 (Nat.le_of_ble_eq_true rfl) (Nat.le_of_ble_eq_true rfl) (js_putS o1 ((i1 1).trans c0) ot1 q1 hB1 (by omega) m2) ?_
  rintro v h2 ⟨rfl, x2, q2⟩
  refine yy_fin.steps (n := 2) (s' := (35, [some (.ref k), some (.ref s), some (.int (Int32.ofNat t.length))], [.ref k, .ref k], h2)) rfl ?_
  have hkv : k ≠ v1 := fun e => (q1.1.neO o1) e.symm
  have o2 := o1.x x2 hkv
  refine yy_fin.fi rfl o2 rfl ((o1.i x2 hkv 3).trans ((i1 3).trans n0)) ?_
  refine yy_fin.steps (n := 1) (s' := (39, [some (.ref k), some (.ref s), some (.int (Int32.ofNat t.length))], [.int (Int32.ofNat t.length), .int (Int32.ofNat l.length), .ref k], h2)) rfl ?_
  refine yy_fin.steps (n := 1) (s' := (40, [some (.ref k), some (.ref s), some (.int (Int32.ofNat t.length))], [.int ((Int32.ofNat l.length) + (Int32.ofNat t.length)), .ref k], h2)) rfl ?_
  rw [y_ad]
  refine yy_fin.wi rfl o2 rfl (Or.inl rfl) fun h3 x3 o3 n3 i3 => ?_
  refine yy_fin.steps (n := 1) (s' := (44, [some (.ref k), some (.ref s), some (.int (Int32.ofNat t.length))], [.ref k], h3)) rfl ?_
  have e9 : (l ++ l2 ++ w2).take l.length ++ (t ++ (l ++ l2 ++ w2).drop (l.length + t.length)) = (l ++ t) ++ (l2 ++ w2).drop t.length := by
    rw [List.append_assoc l l2 w2, List.take_left, ← List.drop_drop, List.drop_left, List.append_assoc]
  rw [e9] at q2
  have hv1z : z < v1 := by
    rcases hv1 with e | e
    · rw [e]; exact zv.2.1
    · have := o.le; omega
  exact yy_fin.at (n := 1) rfl ⟨rfl, (((x1.wk (B := fun q => z < q) (fun q _ e => by rw [e]; exact zv.1) (Nat.le_refl _) (Nat.le_refl _)).tr x2 (fun q _ e => by rw [e]; exact hv1z)).tr x3 (fun q _ e => by rw [e]; exact zv.1)).le (Nat.le_refl _) (Nat.le_refl _), v1, (l2 ++ w2).drop t.length, ⟨zv.1, hv1z, fun e => hkv e.symm⟩, o3, (i3 1 (by decide)).trans ((o1.i x2 hkv 1).trans ((i1 1).trans c0)), by rw [n3, List.length_append], q2.x x3 (fun e => hkv e.symm), yA_app (yA_app (yA_l hA) ot.2.1) (yA_drop _ (yA_app (yA_r hA) a1)), by have := congrArg List.length e9; simp only [List.length_append, List.length_take, List.length_drop] at this m1 m2 ⊢; omega⟩
theorem js_appS (hb : yB h z k l) (ot : yT h s vs t) (hlt : l.length + t.length ≤ 20000) (hB : h.1.1 + 1 < yy_B) (hz : zz_Zr h) : yy_fin X 308 (0, zz_in [.ref k, .ref s] (zz_nl 308), [], h) (fun r h' => r = some (.ref k) ∧ yx (fun q => z < q) 1 (2 * (l.length + t.length) + 2) h h' ∧ yB h' z k (l ++ t)) := by
  refine yy_fin.steps (n := 2) (s' := (2, [some (.ref k), some (.ref s)], [.ref s, .ref k], h)) rfl ?_
  obtain ⟨v, l2, zv, o, -⟩ := id hb
  refine yy_fin.cp (as := [.ref s]) rfl (by decide) rfl rfl o (Nat.le_of_ble_eq_true rfl) (Nat.le_of_ble_eq_true rfl) (js_apS hb ot hlt hB hz) ?_
  rintro v h1 ⟨rfl, x1, b1⟩
  refine yy_fin.steps (n := 2) (s' := (7, [some (.ref k), some (.ref s)], [.ref k], h1)) rfl ?_
  exact yy_fin.at (n := 1) rfl ⟨rfl, x1, b1⟩
end YJ2
