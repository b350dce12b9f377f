/-! THE JDK: texts (printed by wip/p54/j1.py) -/
theorem y_nI {n : Nat} (h : n < 2147483648) : (Int32.ofNat n).toInt = n := nI_toInt (n := n) (by omega)
theorem y_byte {x : Int32} (h : 0 ≤ x.toInt ∧ x.toInt ≤ 127) : ((x &&& 255).toUInt32 % 65536).toInt32 = x := by
  obtain ⟨n, hn, rfl⟩ : ∃ n : Nat, n < 128 ∧ x = Int32.ofNat n := ⟨x.toInt.toNat, by omega, Int32.toInt_inj.mp (by rw [y_nI (by omega)]; omega)⟩
  have : ∀ k : Fin 128, ((Int32.ofNat k.val &&& 255).toUInt32 % 65536).toInt32 = Int32.ofNat k.val := by decide +kernel
  exact this ⟨n, hn⟩
theorem y_inb {n m : Nat} (h : n < m) (hm : m < 2147483648) : zz_inb (Int32.ofNat n) m = true := decide_eq_true fun z => by
  rcases z with z | z
  · exact nI_pos (n := n) (by omega) z
  · rw [show (Int32.ofNat n).toNatClampNeg = n from nI_clamp (n := n) (by omega)] at z
    omega
theorem y_cl {n : Nat} (h : n < 2147483648) : (Int32.ofNat n).toNatClampNeg = n := nI_clamp (n := n) (by omega)
theorem y_clp {n : Nat} (h : n < 2147483648) : (Int32.ofNat n).toNatClampNeg = n ∧ ¬ Int32.ofNat n < 0 := ⟨y_cl h, nI_pos (n := n) (by omega)⟩
section YJ1
variable {X : yy_X} {h : zz_H} {k v : Nat} {l : List Int32}
theorem js_coder (o : yT h k v l) (hB : h.1.1 < yy_B) : yy_fin X 328 (0, zz_in [.ref k] (zz_nl 328), [], h) (fun r h' => r = some (.int 0) ∧ h' = h) := by
  refine yy_fin.steps (n := 1) (s' := (3, [some (.ref k)], [.int 1], h)) rfl ?_
  refine yy_fin.if rfl (fun cK => absurd cK (by decide)) (fun cK => ?_)
  refine yy_fin.steps (n := 1) (s' := (7, [some (.ref k)], [.ref k], h)) rfl ?_
  refine yy_fin.tc rfl o hB ?_
  refine yy_fin.steps (n := 1) (s' := (14, [some (.ref k)], [.int 0], h)) rfl ?_
  exact yy_fin.at (n := 1) rfl ⟨rfl, rfl⟩
theorem js_lat (o : yT h k v l) (hB : h.1.1 < yy_B) : yy_fin X 329 (0, zz_in [.ref k] (zz_nl 329), [], h) (fun r h' => r = some (.int 1) ∧ h' = h) := by
  refine yy_fin.steps (n := 1) (s' := (3, [some (.ref k)], [.int 1], h)) rfl ?_
  refine yy_fin.if rfl (fun cK => absurd cK (by decide)) (fun cK => ?_)
  refine yy_fin.steps (n := 1) (s' := (7, [some (.ref k)], [.ref k], h)) rfl ?_
  refine yy_fin.tc rfl o hB ?_
  refine yy_fin.if rfl (fun cK => absurd cK (by decide)) (fun cK => ?_)
  refine yy_fin.steps (n := 2) (s' := (18, [some (.ref k)], [.int 1], h)) rfl ?_
  exact yy_fin.at (n := 1) rfl ⟨rfl, rfl⟩
theorem js_len (o : yT h k v l) (hB : h.1.1 < yy_B) : yy_fin X 327 (0, zz_in [.ref k] (zz_nl 327), [], h) (fun r h' => r = some (.int (Int32.ofNat l.length)) ∧ h' = h) := by
  refine yy_fin.steps (n := 1) (s' := (1, [some (.ref k)], [.ref k], h)) rfl ?_
  refine yy_fin.tv rfl o hB ?_
  refine yy_fin.vl rfl o.1 hB ?_
  refine yy_fin.steps (n := 1) (s' := (6, [some (.ref k)], [.ref k, .int (Int32.ofNat l.length)], h)) rfl ?_
  refine yy_fin.ct (as := []) rfl (by decide) rfl rfl o hB (Nat.le_of_ble_eq_true rfl) (Nat.le_of_ble_eq_true rfl) (js_coder o hB) ?_
  rintro v h ⟨rfl, rfl⟩
  refine yy_fin.steps (n := 1) (s' := (10, [some (.ref k)], [.int ((Int32.ofNat l.length) >>> (0 &&& 31))], h)) rfl ?_
  rw [sb_shr0]
  exact yy_fin.at (n := 1) rfl ⟨rfl, rfl⟩
theorem js_ci {i n : Int32} {F : Value} (hF : F = .null ∨ ∃ q, F = .ref q) (h0 : 0 ≤ i.toInt) (h1 : i.toInt < n.toInt) : yy_fin X 350 (0, zz_in [.int i, .int n, F] (zz_nl 350), [], h) (fun r h' => r = some (.int i) ∧ h' = h) := by
  have c1 : ¬ zz_cond .lt i = true := fun c => by
    have c := Int32.lt_iff_toInt_lt.mp (of_decide_eq_true c)
    rw [show (0 : Int32).toInt = 0 from rfl] at c
    omega
  have c2 : zz_cmp .lt i n = true := decide_eq_true (Int32.lt_iff_toInt_lt.mpr h1)
  rcases hF with rfl | ⟨q, rfl⟩
  · refine yy_fin.steps (n := 1) (s' := (1, [some (.int i), some (.int n), some (.null)], [.int i], h)) rfl ?_
    refine yy_fin.if rfl (fun c => absurd c c1) (fun c => ?_)
    refine yy_fin.steps (n := 2) (s' := (6, [some (.int i), some (.int n), some (.null)], [.int n, .int i], h)) rfl ?_
    refine yy_fin.ic rfl (fun c => ?_) (fun c => absurd c2 c)
    refine yy_fin.steps (n := 1) (s' := (17, [some (.int i), some (.int n), some (.null)], [.int i], h)) rfl ?_
    exact yy_fin.at (n := 1) rfl ⟨rfl, rfl⟩
  · refine yy_fin.steps (n := 1) (s' := (1, [some (.int i), some (.int n), some (.ref q)], [.int i], h)) rfl ?_
    refine yy_fin.if rfl (fun c => absurd c c1) (fun c => ?_)
    refine yy_fin.steps (n := 2) (s' := (6, [some (.int i), some (.int n), some (.ref q)], [.int n, .int i], h)) rfl ?_
    refine yy_fin.ic rfl (fun c => ?_) (fun c => absurd c2 c)
    refine yy_fin.steps (n := 1) (s' := (17, [some (.int i), some (.int n), some (.ref q)], [.int i], h)) rfl ?_
    exact yy_fin.at (n := 1) rfl ⟨rfl, rfl⟩
theorem js_ck {i n : Int32} (h0 : 0 ≤ i.toInt) (h1 : i.toInt < n.toInt) : yy_fin X 336 (0, zz_in [.int i, .int n] (zz_nl 336), [], h) (fun r h' => r = none ∧ h' = h) := by
  obtain ⟨X1, b⟩ := X
  cases b
  · refine yy_fin.steps (n := 2) (s' := (2, [some (.int i), some (.int n)], [.int n, .int i], h)) rfl ?_
    refine yy_fin.steps (n := 1) (s' := (5, [some (.int i), some (.int n)], [.null, .int n, .int i], h)) rfl ?_
    refine yy_fin.calls (as := [.int i, .int n, .null]) rfl (by decide) rfl rfl (Nat.le_of_ble_eq_true rfl) (Nat.le_of_ble_eq_true rfl) (js_ci (Or.inl rfl) h0 h1) ?_
    rintro v h ⟨rfl, rfl⟩
    refine yy_fin.steps (n := 1) (s' := (9, [some (.int i), some (.int n)], [], h)) rfl ?_
    exact yy_fin.at (n := 1) rfl ⟨rfl, rfl⟩
  · refine yy_fin.steps (n := 2) (s' := (2, [some (.int i), some (.int n)], [.int n, .int i], h)) rfl ?_
    refine yy_fin.steps (n := 1) (s' := (5, [some (.int i), some (.int n)], [.ref (yy_B + 300), .int n, .int i], h)) rfl ?_
    refine yy_fin.calls (as := [.int i, .int n, .ref (yy_B + 300)]) rfl (by decide) rfl rfl (Nat.le_of_ble_eq_true rfl) (Nat.le_of_ble_eq_true rfl) (js_ci (Or.inr ⟨_, rfl⟩) h0 h1) ?_
    rintro v h ⟨rfl, rfl⟩
    refine yy_fin.steps (n := 1) (s' := (9, [some (.int i), some (.int n)], [], h)) rfl ?_
    exact yy_fin.at (n := 1) rfl ⟨rfl, rfl⟩
theorem yy_fin.retc {X : yy_X} {m pc : Nat} {lv : zz_V} {h : zz_H} {φ : Option Value → zz_H → Prop} {x y u w : Nat} {vv : Value} {sw : List (Int × Nat)} {a : Int32} (hT : zz_T m pc = some (.ireturn, (x, y, u, w), vv, sw)) (hrt : zz_rt m = 4) (ha : 0 ≤ a ∧ a ≤ 65535) (k : φ (some (.int a)) h) : yy_fin X m (pc, lv, [.int a], h) φ := by
  refine yy_fin.ret hT (yy_ofN (o := some (.inr (.inl (pc, some (.int a), h)))) ?_ ?_) k
  · simp only [zz_step]
    rw [hrt]
    exact if_neg (fun z => z.elim (fun e => absurd e (by decide)) (fun e => absurd e.1 (by decide)))
  · simp only [yy_more]
    rw [hrt]
    exact if_pos (Or.inl ⟨rfl, ha⟩)
theorem yy_fin.ret2 {X : yy_X} {m pc : Nat} {lv : zz_V} {h : zz_H} {φ : Option Value → zz_H → Prop} {x y u w : Nat} {vv : Value} {sw : List (Int × Nat)} {a : Int32} (hT : zz_T m pc = some (.ireturn, (x, y, u, w), vv, sw)) (hrt : zz_rt m = 2) (ha : a = 0 ∨ a = 1) (k : φ (some (.int a)) h) : yy_fin X m (pc, lv, [.int a], h) φ := by
  refine yy_fin.ret hT (yy_ofS (o := .inr (.inl (pc, some (.int a), h))) ?_) k
  simp only [zz_step]
  rw [hrt]
  exact if_pos (Or.inr ⟨rfl, ha⟩)
theorem yy_fin.ret5 {X : yy_X} {m pc : Nat} {lv : zz_V} {h : zz_H} {φ : Option Value → zz_H → Prop} {x y u w : Nat} {vv : Value} {sw : List (Int × Nat)} {a : Int32} (hT : zz_T m pc = some (.ireturn, (x, y, u, w), vv, sw)) (hrt : zz_rt m = 5) (ha : a = 0 ∨ a = 1) (k : φ (some (.int a)) h) : yy_fin X m (pc, lv, [.int a], h) φ := by
  refine yy_fin.ret hT (yy_ofN (o := some (.inr (.inl (pc, some (.int a), h)))) ?_ ?_) k
  · simp only [zz_step]
    rw [hrt]
    exact if_neg (fun z => z.elim (fun e => absurd e (by decide)) (fun e => absurd e.1 (by decide)))
  · simp only [yy_more]
    rw [hrt]
    exact if_pos (Or.inr ⟨rfl, ha⟩)
theorem js_at1 {j : Nat} {c : Int32} (o : yV h v l) (hA : yA l) (hl : l.length < 100000) (hB : h.1.1 < yy_B) (ej : l[j]? = some c) : yy_fin X 338 (0, zz_in [.ref v, .int (Int32.ofNat j)] (zz_nl 338), [], h) (fun r h' => r = some (.int c) ∧ h' = h) := by
  have hj : j < l.length := (List.getElem?_eq_some_iff.mp ej).1
  refine yy_fin.steps (n := 2) (s' := (2, [some (.ref v), some (.int (Int32.ofNat j))], [.ref v, .int (Int32.ofNat j)], h)) rfl ?_
  refine yy_fin.vl rfl o hB ?_
  refine yy_fin.calls (as := [.int (Int32.ofNat j), .int (Int32.ofNat l.length)]) rfl (by decide) rfl rfl (Nat.le_of_ble_eq_true rfl) (Nat.le_of_ble_eq_true rfl) (js_ck (by rw [y_nI (by omega)]; omega) (by rw [y_nI (by omega), y_nI (by omega)]; omega)) ?_
  rintro v h ⟨rfl, rfl⟩
  refine yy_fin.steps (n := 2) (s' := (8, [some (.ref v), some (.int (Int32.ofNat j))], [.int (Int32.ofNat j), .ref v], h)) rfl ?_
  refine yy_fin.vb rfl o hB (y_inb hj (by omega)) (y_cl (by omega)) ej ?_
  refine yy_fin.steps (n := 3) (s' := (14, [some (.ref v), some (.int (Int32.ofNat j))], [.int (((c &&& 255).toUInt32 % 65536).toInt32)], h)) rfl ?_
  rw [y_byte (hA c (List.mem_of_getElem? ej))]
  have hc := hA c (List.mem_of_getElem? ej)
  exact yy_fin.retc rfl rfl ⟨Int32.le_iff_toInt_le.mpr (by rw [show (0 : Int32).toInt = 0 from rfl]; omega), Int32.le_iff_toInt_le.mpr (by rw [show (65535 : Int32).toInt = 65535 from rfl]; omega)⟩ ⟨rfl, rfl⟩
theorem js_charAt {j : Nat} {c : Int32} (o : yT h k v l) (hB : h.1.1 < yy_B) (ej : l[j]? = some c) : yy_fin X 330 (0, zz_in [.ref k, .int (Int32.ofNat j)] (zz_nl 330), [], h) (fun r h' => r = some (.int c) ∧ h' = h) := by
  refine yy_fin.steps (n := 1) (s' := (1, [some (.ref k), some (.int (Int32.ofNat j))], [.ref k], h)) rfl ?_
  refine yy_fin.ct (as := []) rfl (by decide) rfl rfl o hB (Nat.le_of_ble_eq_true rfl) (Nat.le_of_ble_eq_true rfl) (js_lat o hB) ?_
  rintro v h ⟨rfl, rfl⟩
  refine yy_fin.if rfl (fun cK => absurd cK (by decide)) (fun cK => ?_)
  refine yy_fin.steps (n := 1) (s' := (8, [some (.ref k), some (.int (Int32.ofNat j))], [.ref k], h)) rfl ?_
  refine yy_fin.tv rfl o hB ?_
  refine yy_fin.steps (n := 1) (s' := (12, [some (.ref k), some (.int (Int32.ofNat j))], [.int (Int32.ofNat j), .ref v], h)) rfl ?_
  refine yy_fin.calls (as := [.ref v, .int (Int32.ofNat j)]) rfl (by decide) rfl rfl (Nat.le_of_ble_eq_true rfl) (Nat.le_of_ble_eq_true rfl) (js_at1 o.1 o.2.1 o.2.2.1 hB ej) ?_
  rintro v h ⟨rfl, rfl⟩
  have hc := o.2.1 c (List.mem_of_getElem? ej)
  exact yy_fin.retc rfl rfl ⟨Int32.le_iff_toInt_le.mpr (by rw [show (0 : Int32).toInt = 0 from rfl]; omega), Int32.le_iff_toInt_le.mpr (by rw [show (65535 : Int32).toInt = 65535 from rfl]; omega)⟩ ⟨rfl, rfl⟩
theorem js_getB {a d : Nat} {w : List Int32} (o : yT h k v l) (hB : h.1.1 < yy_B) (q : yW h a w) (hd : d + l.length ≤ w.length) (hw : w.length < 100000) : yy_fin X 331 (0, zz_in [.ref k, .ref a, .int (Int32.ofNat d), .int 0] (zz_nl 331), [], h) (fun r h' => r = none ∧ yx (fun q => q = a) 0 0 h h' ∧ yW h' a (w.take d ++ (l ++ w.drop (d + l.length)))) := by
  have ht := o.2.2.1
  refine yy_fin.steps (n := 1) (s' := (1, [some (.ref k), some (.ref a), some (.int (Int32.ofNat d)), some (.int 0)], [.ref k], h)) rfl ?_
  refine yy_fin.ct (as := []) rfl (by decide) rfl rfl o hB (Nat.le_of_ble_eq_true rfl) (Nat.le_of_ble_eq_true rfl) (js_coder o hB) ?_
  rintro v h ⟨rfl, rfl⟩
  refine yy_fin.steps (n := 1) (s' := (5, [some (.ref k), some (.ref a), some (.int (Int32.ofNat d)), some (.int 0)], [.int 0, .int 0], h)) rfl ?_
  refine yy_fin.ic rfl (fun cK => absurd cK (by decide)) (fun cK => ?_)
  refine yy_fin.steps (n := 1) (s' := (9, [some (.ref k), some (.ref a), some (.int (Int32.ofNat d)), some (.int 0)], [.ref k], h)) rfl ?_
  refine yy_fin.tv rfl o hB ?_
  refine yy_fin.steps (n := 6) (s' := (18, [some (.ref k), some (.ref a), some (.int (Int32.ofNat d)), some (.int 0)], [.ref k, .int ((Int32.ofNat d) <<< (0 &&& 31)), .ref a, .int 0, .ref v], h)) rfl ?_
  refine yy_fin.tv rfl o hB ?_
  refine yy_fin.vl rfl o.1 hB ?_
  rw [sb_shl0]
  refine yy_fin.cw rfl o.1 hB q (s := 0) (d := d) (cnt := l.length) ⟨rfl, by decide⟩ (y_clp (by omega)) (y_clp (by omega)) (by omega) hd (Nat.le_of_ble_eq_true rfl) o.2.1 fun h1 x1 q1 => ?_
  rw [List.drop_zero, List.take_length] at q1
  refine yy_fin.steps (n := 1) (s' := (43, [some (.ref k), some (.ref a), some (.int (Int32.ofNat d)), some (.int 0)], [], h1)) rfl ?_
  exact yy_fin.at (n := 1) rfl ⟨rfl, x1, q1⟩
end YJ1
