/-! THE SECOND MACHINE'S STEPS ON ANY HEAP -/
section YR
variable {X : yy_X} {m m2 pc : Nat} {lv : zz_V} {st as rest r : List Value} {h h' : zz_H} {φ ψ : Option Value → zz_H → Prop} {x y u w : Nat} {vv : Value} {sw : List (Int × Nat)}
theorem yy_fin.ic {cn : Jvm.ClassFile.Cond} {off : Int} {a d : Int32} (hT : zz_T m pc = some (.if_icmp cn off, (x, y, u, w), vv, sw)) (k1 : zz_cmp cn a d = true → yy_fin X m (x, lv, r, h) φ) (k2 : ¬ zz_cmp cn a d = true → yy_fin X m (pc + 3, lv, r, h) φ) : yy_fin X m (pc, lv, .int d :: .int a :: r, h) φ := by
  by_cases hc : zz_cmp cn a d = true
  · exact yy_fin.step1 hT (yy_ofS (by simp only [zz_step, zz_ic]; rw [if_pos hc]; rfl)) (k1 hc)
  · exact yy_fin.step1 hT (yy_ofS (by simp only [zz_step, zz_ic]; rw [if_neg hc]; rfl)) (k2 hc)
theorem yy_fin.if {cn : Jvm.ClassFile.Cond} {off : Int} {a : Int32} (hT : zz_T m pc = some (.ifCond cn off, (x, y, u, w), vv, sw)) (k1 : zz_cond cn a = true → yy_fin X m (x, lv, r, h) φ) (k2 : ¬ zz_cond cn a = true → yy_fin X m (pc + 3, lv, r, h) φ) : yy_fin X m (pc, lv, .int a :: r, h) φ := by
  by_cases hc : zz_cond cn a = true
  · exact yy_fin.step1 hT (yy_ofS (by simp only [zz_step, zz_if]; rw [if_pos hc]; rfl)) (k1 hc)
  · exact yy_fin.step1 hT (yy_ofS (by simp only [zz_step, zz_if]; rw [if_neg hc]; rfl)) (k2 hc)
theorem yy_fin.get {i k : Nat} {fs : List (Option (Option Nat))} (hT : zz_T m pc = some (.getfield i, (x, y, u, w), vv, sw)) (ho : zz_obj h (k + 1) x = some fs) (hf : fs[y]? = some none) (kk : yy_fin X m (pc + 3, lv, .int (h.2.2 (k + 1) y) :: r, h) φ) : yy_fin X m (pc, lv, .ref (k + 1) :: r, h) φ :=
  yy_fin.step1 hT (yy_ofS (by
    show zz_get x y pc lv (.ref (k + 1) :: r) h = _
    unfold zz_get
    dsimp only
    rw [ho]
    dsimp only
    rw [hf]
    rfl)) kk
theorem yy_fin.getr {i k : Nat} {q : Option Nat} {fs : List (Option (Option Nat))} (hT : zz_T m pc = some (.getfield i, (x, y, u, w), vv, sw)) (ho : zz_obj h (k + 1) x = some fs) (hf : fs[y]? = some (some q)) (kk : yy_fin X m (pc + 3, lv, zz_val q :: r, h) φ) : yy_fin X m (pc, lv, .ref (k + 1) :: r, h) φ :=
  yy_fin.step1 hT (yy_ofS (by
    show zz_get x y pc lv (.ref (k + 1) :: r) h = _
    unfold zz_get
    dsimp only
    rw [ho]
    dsimp only
    rw [hf]
    rfl)) kk
theorem yy_fin.put {i k : Nat} {a : Int32} {fs : List (Option (Option Nat))} (hT : zz_T m pc = some (.putfield i, (x, y, u, w), vv, sw)) (ho : zz_obj h (k + 1) x = some fs) (hf : fs[y]? = some none) (hu : u = 0 ∨ (u = 1 ∧ (a = 0 ∨ a = 1))) (kk : yy_fin X m (pc + 3, lv, r, (h.1, (h.2.1, zz_w h.2.2 (k + 1) y a))) φ) : yy_fin X m (pc, lv, .int a :: .ref (k + 1) :: r, h) φ :=
  yy_fin.step1 hT (yy_ofS (by
    show zz_put x y u pc lv (.int a :: .ref (k + 1) :: r) h = _
    unfold zz_put
    dsimp only
    rw [ho]
    dsimp only
    rw [hf]
    dsimp only
    rw [if_pos hu]
    rfl)) kk
theorem yy_fin.putr {i k q : Nat} {q0 : Option Nat} {fs : List (Option (Option Nat))} (hT : zz_T m pc = some (.putfield i, (x, y, 2, w), vv, sw)) (ho : zz_obj h (k + 1) x = some fs) (hf : fs[y]? = some (some q0)) (kk : yy_fin X m (pc + 3, lv, r, (h.1, (zz_up h.2.1 (k + 1) (.inr (.inr (x, fs.set y (some (some q))))), h.2.2))) φ) : yy_fin X m (pc, lv, .ref q :: .ref (k + 1) :: r, h) φ :=
  yy_fin.step1 hT (yy_ofS (by
    show zz_put x y 2 pc lv (.ref q :: .ref (k + 1) :: r) h = _
    unfold zz_put
    dsimp only
    rw [ho]
    dsimp only
    rw [hf]
    dsimp only
    rw [if_pos rfl]
    rfl)) kk
theorem yy_fin.ial {i : Int32} {k n : Nat} (hT : zz_T m pc = some (.iaload, (x, y, u, w), vv, sw)) (ha : zz_arr h (k + 1) 0 = some n) (hi : zz_inb i n = true) (kk : yy_fin X m (pc + 1, lv, .int (h.2.2 (k + 1) i.toNatClampNeg) :: r, h) φ) : yy_fin X m (pc, lv, .int i :: .ref (k + 1) :: r, h) φ :=
  yy_fin.step1 hT (yy_ofS (by
    show zz_ial X.1 pc lv (.int i :: .ref (k + 1) :: r) h = _
    unfold zz_ial
    dsimp only
    rw [ha]
    dsimp only
    rw [if_pos hi]
    rfl)) kk
theorem yy_fin.xal {i : Int32} {L : Nat} {xs : Nat → Int32} (hT : zz_T m pc = some (.iaload, (x, y, u, w), vv, sw)) (hX : X.1 = some (L, xs)) (hi : zz_inb i L = true) (kk : yy_fin X m (pc + 1, lv, .int (xs i.toNatClampNeg) :: r, h) φ) : yy_fin X m (pc, lv, .int i :: .ref 0 :: r, h) φ :=
  yy_fin.step1 hT (yy_ofS (by
    show zz_ial X.1 pc lv (.int i :: .ref 0 :: r) h = _
    unfold zz_ial
    dsimp only
    rw [hX]
    dsimp only
    rw [if_pos hi]
    rfl)) kk
theorem yy_fin.xlen {L : Nat} {xs : Nat → Int32} (hT : zz_T m pc = some (.arraylength, (x, y, u, w), vv, sw)) (hX : X.1 = some (L, xs)) (kk : yy_fin X m (pc + 1, lv, .int (Int32.ofNat L) :: r, h) φ) : yy_fin X m (pc, lv, .ref 0 :: r, h) φ :=
  yy_fin.step1 hT (yy_ofS (by
    show zz_len X.1 pc lv (.ref 0 :: r) h = _
    unfold zz_len
    dsimp only
    rw [hX]
    rfl)) kk
theorem yy_fin.ias {i v : Int32} {k n : Nat} (hT : zz_T m pc = some (.iastore, (x, y, u, w), vv, sw)) (ha : zz_arr h (k + 1) 0 = some n) (hi : zz_inb i n = true) (kk : yy_fin X m (pc + 1, lv, r, (h.1, (h.2.1, zz_w h.2.2 (k + 1) i.toNatClampNeg v))) φ) : yy_fin X m (pc, lv, .int v :: .int i :: .ref (k + 1) :: r, h) φ :=
  yy_fin.step1 hT (yy_ofS (by
    show zz_ias pc lv (.int v :: .int i :: .ref (k + 1) :: r) h = _
    unfold zz_ias
    dsimp only
    rw [ha]
    dsimp only
    rw [if_pos hi]
    rfl)) kk
theorem yy_fin.len {k n t : Nat} (hT : zz_T m pc = some (.arraylength, (x, y, u, w), vv, sw)) (ha : zz_arr h (k + 1) t = some n) (ht : t < 5) (kk : yy_fin X m (pc + 1, lv, .int (Int32.ofNat n) :: r, h) φ) : yy_fin X m (pc, lv, .ref (k + 1) :: r, h) φ :=
  yy_fin.step1 hT (yy_ofS (by
    obtain ⟨h1, h2⟩ := zz_arr_ok ha
    show zz_len X.1 pc lv (.ref (k + 1) :: r) h = _
    unfold zz_len zz_lay
    dsimp only
    rw [if_pos h1, h2]
    dsimp only
    rw [if_pos ht]
    rfl)) kk
theorem yy_fin.lenr {k t : Nat} {rs : List (Option Nat)} (hT : zz_T m pc = some (.arraylength, (x, y, u, w), vv, sw)) (ha : zz_rar h (k + 1) = some (t, rs)) (ht : t < 9) (hk : k + 1 < yy_B) (kk : yy_fin X m (pc + 1, lv, .int (Int32.ofNat rs.length) :: r, h) φ) : yy_fin X m (pc, lv, .ref (k + 1) :: r, h) φ := by
  obtain ⟨h1, h2⟩ := zz_rar_ok ha
  refine yy_fin.step1 hT (yy_ofN ?_ ?_) kk
  · show zz_len X.1 pc lv (.ref (k + 1) :: r) h = _
    unfold zz_len zz_lay
    dsimp only
    rw [if_pos h1, h2]
  · show yy_len yy_O pc lv (.ref (k + 1) :: r) h = _
    unfold yy_len
    dsimp only
    rw [if_neg (fun z => by have := Nat.le_of_ble_eq_true z; omega), ha]
    dsimp only
    rw [if_pos ht]
    rfl
theorem yy_fin.aal {i : Int32} {k t : Nat} {rs : List (Option Nat)} {q : Option Nat} (hT : zz_T m pc = some (.aaload, (x, y, u, w), vv, sw)) (ha : zz_rar h (k + 1) = some (t, rs)) (ht : 5 ≤ t ∧ t ≤ 8) (hi : zz_inb i rs.length = true) (hq : rs[i.toNatClampNeg]? = some q) (kk : yy_fin X m (pc + 1, lv, zz_val q :: r, h) φ) : yy_fin X m (pc, lv, .int i :: .ref (k + 1) :: r, h) φ := by
  refine yy_fin.step1 hT (yy_ofN ?_ ?_) kk
  · show zz_aal pc lv (.int i :: .ref (k + 1) :: r) h = _
    unfold zz_aal
    dsimp only
    rw [ha]
    dsimp only
    rw [if_neg (fun z => by rcases z.2 with e | e <;> omega)]
  · show yy_aal pc lv (.int i :: .ref (k + 1) :: r) h = _
    unfold yy_aal
    dsimp only
    rw [ha]
    dsimp only
    rw [if_pos ⟨hi, ht⟩, hq]
    rfl
theorem yy_fin.aas {i : Int32} {k t q : Nat} {rs : List (Option Nat)} (hT : zz_T m pc = some (.aastore, (x, y, u, w), vv, sw)) (ha : zz_rar h (k + 1) = some (t, rs)) (ht : 5 ≤ t ∧ t ≤ 8) (hi : zz_inb i rs.length = true) (hq : yy_kd h t (q + 1) = true) (kk : yy_fin X m (pc + 1, lv, r, (h.1, (zz_up h.2.1 (k + 1) (.inr (.inl (t, rs.set i.toNatClampNeg (some (q + 1))))), h.2.2))) φ) : yy_fin X m (pc, lv, .ref (q + 1) :: .int i :: .ref (k + 1) :: r, h) φ := by
  refine yy_fin.step1 hT (yy_ofN ?_ ?_) kk
  · show zz_aas pc lv (.ref (q + 1) :: .int i :: .ref (k + 1) :: r) h = _
    unfold zz_aas
    dsimp only
    rw [ha]
    dsimp only
    rw [if_neg (fun z => by rcases z.2.1 with e | e <;> omega)]
  · show yy_aas pc lv (.ref (q + 1) :: .int i :: .ref (k + 1) :: r) h = _
    unfold yy_aas
    dsimp only
    rw [ha]
    dsimp only
    rw [if_pos ⟨hi, ht.1, ht.2, hq⟩]
    rfl
theorem yy_fin.aasN {i : Int32} {k t : Nat} {rs : List (Option Nat)} (hT : zz_T m pc = some (.aastore, (x, y, u, w), vv, sw)) (ha : zz_rar h (k + 1) = some (t, rs)) (ht : t = 5) (hi : zz_inb i rs.length = true) (kk : yy_fin X m (pc + 1, lv, r, (h.1, (zz_up h.2.1 (k + 1) (.inr (.inl (t, rs.set i.toNatClampNeg none))), h.2.2))) φ) : yy_fin X m (pc, lv, .null :: .int i :: .ref (k + 1) :: r, h) φ := by
  refine yy_fin.step1 hT (yy_ofN rfl ?_) kk
  show yy_aas pc lv (.null :: .int i :: .ref (k + 1) :: r) h = _
  unfold yy_aas
  dsimp only
  rw [ha]
  dsimp only
  rw [if_pos ⟨hi, ht⟩]
  rfl
theorem yy_fin.nar {n : Int32} {t : ArrayType} (hT : zz_T m pc = some (.newarray t, (x, y, u, w), vv, sw)) (hn : ¬ (n < 0 ∨ 100000 < n.toNatClampNeg)) (kk : yy_fin X m (pc + 2, lv, .ref (h.1.1 + 1) :: r, zz_more h n.toNatClampNeg (.inl (x, n.toNatClampNeg))) φ) : yy_fin X m (pc, lv, .int n :: r, h) φ :=
  yy_fin.step1 hT (yy_ofS (by
    show zz_nar x pc lv (.int n :: r) h = _
    unfold zz_nar
    dsimp only
    rw [if_neg hn]
    rfl)) kk
theorem yy_fin.anr {n : Int32} {i : Nat} (hT : zz_T m pc = some (.anewarray i, (x, y, u, w), vv, sw)) (hn : ¬ (n < 0 ∨ 100000 < n.toNatClampNeg)) (kk : yy_fin X m (pc + 3, lv, .ref (h.1.1 + 1) :: r, zz_more h n.toNatClampNeg (.inr (.inl (x, List.replicate n.toNatClampNeg none)))) φ) : yy_fin X m (pc, lv, .int n :: r, h) φ :=
  yy_fin.step1 hT (yy_ofS (by
    show zz_anr x pc lv (.int n :: r) h = _
    unfold zz_anr
    dsimp only
    rw [if_neg hn]
    rfl)) kk
theorem yy_fin.new {i : Nat} (hT : zz_T m pc = some (.new i, (x, y, u, w), vv, sw)) (kk : yy_fin X m (pc + 3, lv, .ref (h.1.1 + 1) :: st, zz_more h (zz_us x).length (.inr (.inr (x, zz_fs (zz_us x))))) φ) : yy_fin X m (pc, lv, st, h) φ :=
  yy_fin.step1 hT (yy_ofS rfl) kk
theorem yy_fin.callv {i n k : Nat} (hT : zz_T m pc = some (.invokevirtual i, (m2, n, u, w), vv, sw)) (hst : st = as.reverse ++ .ref (k + 1) :: rest) (hn : as.length = n) (hob : (zz_obj h (k + 1) u).isSome = true) (h8 : (rest.map fun v => v.category).sum ≤ 8) (hf : (zz_in (.ref (k + 1) :: as) 0).length ≤ zz_nl m2)
    (kc : yy_fin X m2 (0, zz_in (.ref (k + 1) :: as) (zz_nl m2), [], h) ψ) (kk : ∀ v h', ψ v h' → yy_fin X m (pc + 3, lv, v.toList ++ rest, h') φ) : yy_fin X m (pc, lv, st, h) φ := by
  subst hst
  refine yy_fin.call hT (yy_ofS ?_) hf kc kk
  show zz_cv m2 n u (as.reverse ++ .ref (k + 1) :: rest) h = _
  have hl : as.reverse.length = n := by rw [List.length_reverse, hn]
  have hd : (as.reverse ++ Value.ref (k + 1) :: rest).drop n = .ref (k + 1) :: rest := by rw [← hl, List.drop_left]
  have ht : (as.reverse ++ Value.ref (k + 1) :: rest).take n = as.reverse := by rw [← hl, List.take_left]
  unfold zz_cv
  rw [hd]
  dsimp only
  rw [if_pos ⟨by rw [List.length_append]; omega, hob⟩, ht, List.reverse_reverse]
  unfold zz_call
  rw [if_pos h8]
theorem yy_fin.callsp {i n k : Nat} (hT : zz_T m pc = some (.invokespecial i, (m2, n, u, w), vv, sw)) (hm2 : m2 ≠ 100000) (hst : st = as.reverse ++ .ref (k + 1) :: rest) (hn : as.length = n) (hob : (zz_obj h (k + 1) u).isSome = true) (h8 : (rest.map fun v => v.category).sum ≤ 8) (hf : (zz_in (.ref (k + 1) :: as) 0).length ≤ zz_nl m2)
    (kc : yy_fin X m2 (0, zz_in (.ref (k + 1) :: as) (zz_nl m2), [], h) ψ) (kk : ∀ v h', ψ v h' → yy_fin X m (pc + 3, lv, v.toList ++ rest, h') φ) : yy_fin X m (pc, lv, st, h) φ := by
  subst hst
  refine yy_fin.call hT (yy_ofS ?_) hf kc kk
  simp only [zz_step]
  rw [if_neg hm2]
  have hl : as.reverse.length = n := by rw [List.length_reverse, hn]
  have hd : (as.reverse ++ Value.ref (k + 1) :: rest).drop n = .ref (k + 1) :: rest := by rw [← hl, List.drop_left]
  have ht : (as.reverse ++ Value.ref (k + 1) :: rest).take n = as.reverse := by rw [← hl, List.take_left]
  unfold zz_cv
  rw [hd]
  dsimp only
  rw [if_pos ⟨by rw [List.length_append]; omega, hob⟩, ht, List.reverse_reverse]
  unfold zz_call
  rw [if_pos h8]
theorem yy_fin.calls {i n : Nat} (hT : zz_T m pc = some (.invokestatic i, (m2, n, u, w), vv, sw)) (hm2 : m2 < 100000) (hst : st = as.reverse ++ rest) (hn : as.length = n) (h8 : (rest.map fun v => v.category).sum ≤ 8) (hf : (zz_in as 0).length ≤ zz_nl m2)
    (kc : yy_fin X m2 (0, zz_in as (zz_nl m2), [], h) ψ) (kk : ∀ v h', ψ v h' → yy_fin X m (pc + 3, lv, v.toList ++ rest, h') φ) : yy_fin X m (pc, lv, st, h) φ := by
  subst hst
  refine yy_fin.call hT (yy_ofS ?_) hf kc kk
  simp only [zz_step]
  rw [if_pos hm2]
  have hl : as.reverse.length = n := by rw [List.length_reverse, hn]
  unfold zz_cs
  rw [if_pos (by rw [List.length_append]; omega), show (as.reverse ++ rest).take n = as.reverse by rw [← hl, List.take_left], show (as.reverse ++ rest).drop n = rest by rw [← hl, List.drop_left], List.reverse_reverse]
  unfold zz_call
  rw [if_pos h8]
end YR
