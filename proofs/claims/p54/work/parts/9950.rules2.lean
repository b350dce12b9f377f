/-! THE SECOND MACHINE'S STEPS ON ANY HEAP -/
theorem yy_oldT {k : Nat} (h : yy_B ≤ k) : yy_old k = true := Nat.ble_eq_true_of_le h
theorem yy_oldF {k : Nat} (h : k < yy_B) : ¬ yy_old k = true := fun z => absurd (Nat.le_of_ble_eq_true z) (Nat.not_le.mpr h)
section YG
variable {O : yy_D} {pc k m n : Nat} {lv : zz_V} {r as rest : List Value} {h : zz_H} {l : List Int32} {i : Int32}
theorem yy_len_new {t : Nat} {rs : List (Option Nat)} (hk : k + 1 < yy_B) (e : zz_rar h (k + 1) = some (t, rs)) (ht : t < 9) : yy_len O pc lv (.ref (k + 1) :: r) h = zz_go (pc + 1) lv (.int (Int32.ofNat rs.length) :: r) h := by
  unfold yy_len
  dsimp only
  rw [if_neg (yy_oldF hk), e]
  dsimp only
  rw [if_pos ht]
theorem yy_len_old (hk : yy_B ≤ k + 1) (e : O.2 (k + 1 - yy_B) = some l) : yy_len O pc lv (.ref (k + 1) :: r) h = zz_go (pc + 1) lv (.int (Int32.ofNat l.length) :: r) h := by
  unfold yy_len
  dsimp only
  rw [if_pos (yy_oldT hk), e]
theorem yy_bal_old (hk : yy_B ≤ k) (e : O.2 (k - yy_B) = some l) (hi : zz_inb i l.length = true) : yy_bal O pc lv (.int i :: .ref k :: r) h = zz_go (pc + 1) lv (.int (l.getD i.toNatClampNeg 0) :: r) h := by
  unfold yy_bal
  dsimp only
  rw [if_pos (yy_oldT hk), e]
  dsimp only
  rw [if_pos hi]
theorem yy_src_old (hk : yy_B ≤ k) (e : O.2 (k - yy_B) = some l) : yy_src O h k = some (l.length, fun j => l.getD j 0) := by
  unfold yy_src
  rw [if_pos (yy_oldT hk), e]
theorem yy_src_new (hk : k < yy_B) (h0 : k ≠ 0) (e : zz_arr h k 2 = some n) : yy_src O h k = some (n, h.2.2 k) := by
  unfold yy_src
  rw [if_neg (yy_oldF hk), e]
  dsimp only
  rw [if_neg h0]
theorem yy_get_old0 (hk : yy_B ≤ k) (e : k - yy_B < O.1) : yy_get O 14 0 pc lv (.ref k :: r) h = zz_go (pc + 3) lv (.ref (k + 100) :: r) h := by
  unfold yy_get
  dsimp only
  rw [if_pos ⟨yy_oldT hk, e, rfl⟩]
  rfl
theorem yy_get_old1 (hk : yy_B ≤ k) (e : k - yy_B < O.1) : yy_get O 14 1 pc lv (.ref k :: r) h = zz_go (pc + 3) lv (.int 0 :: r) h := by
  unfold yy_get
  dsimp only
  rw [if_pos ⟨yy_oldT hk, e, rfl⟩]
  rfl
theorem yy_cv_old (hn : as.length = n) (hk : yy_B ≤ k) (e : k - yy_B < O.1) : yy_cv O m n 14 (as.reverse ++ .ref k :: rest) = zz_call m (.ref k :: as) rest := by
  have hl : as.reverse.length = n := by rw [List.length_reverse, hn]
  have hd : (as.reverse ++ Value.ref k :: rest).drop n = .ref k :: rest := by rw [← hl, List.drop_left]
  have ht : (as.reverse ++ Value.ref k :: rest).take n = as.reverse := by rw [← hl, List.take_left]
  unfold yy_cv
  rw [hd]
  dsimp only
  rw [if_pos ⟨by rw [List.length_append]; omega, yy_oldT hk, e, rfl⟩, ht, List.reverse_reverse]
theorem yy_cpy_did {f : Nat → Int32} {na nb : Nat} {n0 sp dp : Int32} {b : Nat} (e1 : zz_arr h (k + 1) 2 = some na) (e2 : yy_src O h b = some (nb, f)) (hc : ¬ sp < 0 ∧ ¬ dp < 0 ∧ ¬ n0 < 0 ∧ sp.toNatClampNeg + n0.toNatClampNeg ≤ nb ∧ dp.toNatClampNeg + n0.toNatClampNeg ≤ na ∧ (r.map fun v => v.category).sum ≤ 8 ∧ (List.range n0.toNatClampNeg).all (fun i => yy_fb (f (sp.toNatClampNeg + i))) = true) : yy_cpy O pc lv (.int n0 :: .int dp :: .ref (k + 1) :: .int sp :: .ref b :: r) h = zz_go (pc + 3) lv r (h.1, (h.2.1, zz_up h.2.2 (k + 1) (va_cpy f (h.2.2 (k + 1)) sp.toNatClampNeg dp.toNatClampNeg n0.toNatClampNeg))) := by
  unfold yy_cpy
  dsimp only
  rw [e1, e2]
  dsimp only
  rw [if_pos hc]
end YG
section YR
variable {X : yy_X} {m m2 pc : Nat} {lv : zz_V} {st as rest r : List Value} {h h' : zz_H} {φ ψ : Option Value → zz_H → Prop} {x y u w : Nat} {vv : Value} {sw : List (Int × Nat)}
theorem yy_fin.ic {cn : Jvm.ClassFile.Cond} {off : Int} {a d : Int32} (hT : zz_T m pc = some (.if_icmp cn off, (x, y, u, w), vv, sw)) (k1 : zz_cmp cn a d = true → yy_fin X m (x, lv, r, h) φ) (k2 : ¬ zz_cmp cn a d = true → yy_fin X m (pc + 3, lv, r, h) φ) : yy_fin X m (pc, lv, .int d :: .int a :: r, h) φ := by
  by_cases hc : zz_cmp cn a d = true
  · exact yy_fin.step1 hT (yy_ofS (by simp only [zz_step, zz_ic]; rw [if_pos hc]; rfl)) (k1 hc)
  · exact yy_fin.step1 hT (yy_ofS (by simp only [zz_step, zz_ic]; rw [if_neg hc]; rfl)) (k2 hc)
theorem yy_fin.if {cn : Jvm.ClassFile.Cond} {off : Int} {a : Int32} (hT : zz_T m pc = some (.ifCond cn off, (x, y, u, w), vv, sw)) (k1 : zz_cond cn a = true → yy_fin X m (x, lv, r, h) φ) (k2 : ¬ zz_cond cn a = true → yy_fin X m (pc + 3, lv, r, h) φ) : yy_fin X m (pc, lv, .int a :: r, h) φ := by
  by_cases hc : zz_cond cn a = true
  · exact yy_fin.step1 hT (yy_ofS (by simp only [zz_step, zz_if]; rw [if_pos hc]; rfl)) (k1 hc)
  · exact yy_fin.step1 hT (yy_ofS (by simp only [zz_step, zz_if]; rw [if_neg hc]; rfl)) (k2 hc)
theorem yy_fin.get {i k : Nat} {fs : List (Option (Option Nat))} (hT : zz_T m pc = some (.getfield i, (x, y, u, w), vv, sw)) (ho : zz_obj h (k + 1) x = some fs) (hf : fs[y]? = some none) (kk : yy_fin X m (pc + 3, lv, .int (h.2.2 (k + 1) y) :: r, h) φ) : yy_fin X m (pc, lv, .ref (k + 1) :: r, h) φ :=
  yy_fin.step1 hT (yy_ofS (by
    show zz_get x y pc lv (.ref (k + 1) :: r) h = _
    unfold zz_get
    dsimp only
    rw [ho]
    dsimp only
    rw [hf]
    rfl)) kk
theorem yy_fin.getr {i k : Nat} {q : Option Nat} {fs : List (Option (Option Nat))} (hT : zz_T m pc = some (.getfield i, (x, y, u, w), vv, sw)) (ho : zz_obj h (k + 1) x = some fs) (hf : fs[y]? = some (some q)) (kk : yy_fin X m (pc + 3, lv, zz_val q :: r, h) φ) : yy_fin X m (pc, lv, .ref (k + 1) :: r, h) φ :=
  yy_fin.step1 hT (yy_ofS (by
    show zz_get x y pc lv (.ref (k + 1) :: r) h = _
    unfold zz_get
    dsimp only
    rw [ho]
    dsimp only
    rw [hf]
    rfl)) kk
theorem yy_fin.put {i k : Nat} {a : Int32} {fs : List (Option (Option Nat))} (hT : zz_T m pc = some (.putfield i, (x, y, u, w), vv, sw)) (ho : zz_obj h (k + 1) x = some fs) (hf : fs[y]? = some none) (hu : u = 0 ∨ (u = 1 ∧ (a = 0 ∨ a = 1))) (kk : yy_fin X m (pc + 3, lv, r, (h.1, (h.2.1, zz_w h.2.2 (k + 1) y a))) φ) : yy_fin X m (pc, lv, .int a :: .ref (k + 1) :: r, h) φ :=
  yy_fin.step1 hT (yy_ofS (by
    show zz_put x y u pc lv (.int a :: .ref (k + 1) :: r) h = _
    unfold zz_put
    dsimp only
    rw [ho]
    dsimp only
    rw [hf]
    dsimp only
    rw [if_pos hu]
    rfl)) kk
theorem yy_fin.putr {i k q : Nat} {q0 : Option Nat} {fs : List (Option (Option Nat))} (hT : zz_T m pc = some (.putfield i, (x, y, 2, w), vv, sw)) (ho : zz_obj h (k + 1) x = some fs) (hf : fs[y]? = some (some q0)) (kk : yy_fin X m (pc + 3, lv, r, (h.1, (zz_up h.2.1 (k + 1) (.inr (.inr (x, fs.set y (some (some q))))), h.2.2))) φ) : yy_fin X m (pc, lv, .ref q :: .ref (k + 1) :: r, h) φ :=
  yy_fin.step1 hT (yy_ofS (by
    show zz_put x y 2 pc lv (.ref q :: .ref (k + 1) :: r) h = _
    unfold zz_put
    dsimp only
    rw [ho]
    dsimp only
    rw [hf]
    dsimp only
    rw [if_pos rfl]
    rfl)) kk
theorem yy_fin.ial {i : Int32} {k n : Nat} (hT : zz_T m pc = some (.iaload, (x, y, u, w), vv, sw)) (ha : zz_arr h (k + 1) 0 = some n) (hi : zz_inb i n = true) (kk : yy_fin X m (pc + 1, lv, .int (h.2.2 (k + 1) i.toNatClampNeg) :: r, h) φ) : yy_fin X m (pc, lv, .int i :: .ref (k + 1) :: r, h) φ :=
  yy_fin.step1 hT (yy_ofS (by
    show zz_ial X.1 pc lv (.int i :: .ref (k + 1) :: r) h = _
    unfold zz_ial
    dsimp only
    rw [ha]
    dsimp only
    rw [if_pos hi]
    rfl)) kk
theorem yy_fin.xal {i : Int32} {L : Nat} {xs : Nat → Int32} (hT : zz_T m pc = some (.iaload, (x, y, u, w), vv, sw)) (hX : X.1 = some (L, xs)) (hi : zz_inb i L = true) (kk : yy_fin X m (pc + 1, lv, .int (xs i.toNatClampNeg) :: r, h) φ) : yy_fin X m (pc, lv, .int i :: .ref 0 :: r, h) φ :=
  yy_fin.step1 hT (yy_ofS (by
    show zz_ial X.1 pc lv (.int i :: .ref 0 :: r) h = _
    unfold zz_ial
    dsimp only
    rw [hX]
    dsimp only
    rw [if_pos hi]
    rfl)) kk
theorem yy_fin.xlen {L : Nat} {xs : Nat → Int32} (hT : zz_T m pc = some (.arraylength, (x, y, u, w), vv, sw)) (hX : X.1 = some (L, xs)) (kk : yy_fin X m (pc + 1, lv, .int (Int32.ofNat L) :: r, h) φ) : yy_fin X m (pc, lv, .ref 0 :: r, h) φ :=
  yy_fin.step1 hT (yy_ofS (by
    show zz_len X.1 pc lv (.ref 0 :: r) h = _
    unfold zz_len
    dsimp only
    rw [hX]
    rfl)) kk
theorem yy_fin.ias {i v : Int32} {k n : Nat} (hT : zz_T m pc = some (.iastore, (x, y, u, w), vv, sw)) (ha : zz_arr h (k + 1) 0 = some n) (hi : zz_inb i n = true) (kk : yy_fin X m (pc + 1, lv, r, (h.1, (h.2.1, zz_w h.2.2 (k + 1) i.toNatClampNeg v))) φ) : yy_fin X m (pc, lv, .int v :: .int i :: .ref (k + 1) :: r, h) φ :=
  yy_fin.step1 hT (yy_ofS (by
    show zz_ias pc lv (.int v :: .int i :: .ref (k + 1) :: r) h = _
    unfold zz_ias
    dsimp only
    rw [ha]
    dsimp only
    rw [if_pos hi]
    rfl)) kk
theorem yy_fin.len {k n t : Nat} (hT : zz_T m pc = some (.arraylength, (x, y, u, w), vv, sw)) (ha : zz_arr h (k + 1) t = some n) (ht : t < 5) (kk : yy_fin X m (pc + 1, lv, .int (Int32.ofNat n) :: r, h) φ) : yy_fin X m (pc, lv, .ref (k + 1) :: r, h) φ :=
  yy_fin.step1 hT (yy_ofS (by
    obtain ⟨h1, h2⟩ := zz_arr_ok ha
    show zz_len X.1 pc lv (.ref (k + 1) :: r) h = _
    unfold zz_len zz_lay
    dsimp only
    rw [if_pos h1, h2]
    dsimp only
    rw [if_pos ht]
    rfl)) kk
theorem zz_len_rar {X : zz_X} {k t : Nat} {rs : List (Option Nat)} (h1 : k + 1 ≤ h.1.1) (h2 : h.2.1 (k + 1) = .inr (.inl (t, rs))) : zz_len X pc lv (.ref (k + 1) :: r) h = none := by
  unfold zz_len zz_lay
  dsimp only
  rw [if_pos h1, h2]
theorem yy_more_len {O : yy_D} {rt : Nat} : yy_more O X rt (.arraylength, (x, y, u, w), vv, sw) pc lv st h = yy_len O pc lv st h := rfl
theorem yy_more_bal {O : yy_D} {rt : Nat} : yy_more O X rt (.baload, (x, y, u, w), vv, sw) pc lv st h = yy_bal O pc lv st h := rfl
theorem yy_more_get {O : yy_D} {rt i : Nat} : yy_more O X rt (.getfield i, (x, y, u, w), vv, sw) pc lv st h = yy_get O x y pc lv st h := rfl
theorem yy_fin.lenr {k t : Nat} {rs : List (Option Nat)} (hT : zz_T m pc = some (.arraylength, (x, y, u, w), vv, sw)) (ha : zz_rar h (k + 1) = some (t, rs)) (ht : t < 9) (hk : k + 1 < yy_B) (kk : yy_fin X m (pc + 1, lv, .int (Int32.ofNat rs.length) :: r, h) φ) : yy_fin X m (pc, lv, .ref (k + 1) :: r, h) φ := by
  obtain ⟨h1, h2⟩ := zz_rar_ok ha
  have e2 : yy_more yy_O X (zz_rt m) (.arraylength, (x, y, u, w), vv, sw) pc lv (.ref (k + 1) :: r) h = some (.inl (pc + 1, lv, .int (Int32.ofNat rs.length) :: r, h)) := by
    rw [yy_more_len, yy_len_new hk ha ht]
    rfl
  have e1 : zz_step X.1 zz_us (zz_rt m) (.arraylength, (x, y, u, w), vv, sw) pc lv (.ref (k + 1) :: r) h = none := zz_len_rar (X := X.1) h1 h2
  exact yy_fin.step1 hT (yy_ofN e1 e2) kk
theorem yy_fin.aal {i : Int32} {k t : Nat} {rs : List (Option Nat)} {q : Option Nat} (hT : zz_T m pc = some (.aaload, (x, y, u, w), vv, sw)) (ha : zz_rar h (k + 1) = some (t, rs)) (ht : 5 ≤ t ∧ t ≤ 8) (hi : zz_inb i rs.length = true) (hq : rs[i.toNatClampNeg]? = some q) (kk : yy_fin X m (pc + 1, lv, zz_val q :: r, h) φ) : yy_fin X m (pc, lv, .int i :: .ref (k + 1) :: r, h) φ := by
  refine yy_fin.step1 hT (yy_ofN ?_ ?_) kk
  · show zz_aal pc lv (.int i :: .ref (k + 1) :: r) h = _
    unfold zz_aal
    dsimp only
    rw [ha]
    dsimp only
    rw [if_neg (fun z => by rcases z.2 with e | e <;> omega)]
  · show yy_aal pc lv (.int i :: .ref (k + 1) :: r) h = _
    unfold yy_aal
    dsimp only
    rw [ha]
    dsimp only
    rw [if_pos ⟨hi, ht⟩, hq]
    rfl
theorem yy_fin.aas {i : Int32} {k t q : Nat} {rs : List (Option Nat)} (hT : zz_T m pc = some (.aastore, (x, y, u, w), vv, sw)) (ha : zz_rar h (k + 1) = some (t, rs)) (ht : 5 ≤ t ∧ t ≤ 8) (hi : zz_inb i rs.length = true) (hq : yy_kd h t (q + 1) = true) (kk : yy_fin X m (pc + 1, lv, r, (h.1, (zz_up h.2.1 (k + 1) (.inr (.inl (t, rs.set i.toNatClampNeg (some (q + 1))))), h.2.2))) φ) : yy_fin X m (pc, lv, .ref (q + 1) :: .int i :: .ref (k + 1) :: r, h) φ := by
  refine yy_fin.step1 hT (yy_ofN ?_ ?_) kk
  · show zz_aas pc lv (.ref (q + 1) :: .int i :: .ref (k + 1) :: r) h = _
    unfold zz_aas
    dsimp only
    rw [ha]
    dsimp only
    rw [if_neg (fun z => by rcases z.2.1 with e | e <;> omega)]
  · show yy_aas pc lv (.ref (q + 1) :: .int i :: .ref (k + 1) :: r) h = _
    unfold yy_aas
    dsimp only
    rw [ha]
    dsimp only
    rw [if_pos ⟨hi, ht.1, ht.2, hq⟩]
    rfl
theorem yy_fin.aasN {i : Int32} {k t : Nat} {rs : List (Option Nat)} (hT : zz_T m pc = some (.aastore, (x, y, u, w), vv, sw)) (ha : zz_rar h (k + 1) = some (t, rs)) (ht : t = 5) (hi : zz_inb i rs.length = true) (kk : yy_fin X m (pc + 1, lv, r, (h.1, (zz_up h.2.1 (k + 1) (.inr (.inl (t, rs.set i.toNatClampNeg none))), h.2.2))) φ) : yy_fin X m (pc, lv, .null :: .int i :: .ref (k + 1) :: r, h) φ := by
  refine yy_fin.step1 hT (yy_ofN rfl ?_) kk
  show yy_aas pc lv (.null :: .int i :: .ref (k + 1) :: r) h = _
  unfold yy_aas
  dsimp only
  rw [ha]
  dsimp only
  rw [if_pos ⟨hi, ht⟩]
  rfl
theorem yy_fin.nar {n : Int32} {t : ArrayType} (hT : zz_T m pc = some (.newarray t, (x, y, u, w), vv, sw)) (hn : ¬ (n < 0 ∨ 100000 < n.toNatClampNeg)) (kk : yy_fin X m (pc + 2, lv, .ref (h.1.1 + 1) :: r, zz_more h n.toNatClampNeg (.inl (x, n.toNatClampNeg))) φ) : yy_fin X m (pc, lv, .int n :: r, h) φ :=
  yy_fin.step1 hT (yy_ofS (by
    show zz_nar x pc lv (.int n :: r) h = _
    unfold zz_nar
    dsimp only
    rw [if_neg hn]
    rfl)) kk
theorem yy_fin.anr {n : Int32} {i : Nat} (hT : zz_T m pc = some (.anewarray i, (x, y, u, w), vv, sw)) (hn : ¬ (n < 0 ∨ 100000 < n.toNatClampNeg)) (kk : yy_fin X m (pc + 3, lv, .ref (h.1.1 + 1) :: r, zz_more h n.toNatClampNeg (.inr (.inl (x, List.replicate n.toNatClampNeg none)))) φ) : yy_fin X m (pc, lv, .int n :: r, h) φ :=
  yy_fin.step1 hT (yy_ofS (by
    show zz_anr x pc lv (.int n :: r) h = _
    unfold zz_anr
    dsimp only
    rw [if_neg hn]
    rfl)) kk
theorem yy_fin.new {i : Nat} (hT : zz_T m pc = some (.new i, (x, y, u, w), vv, sw)) (kk : yy_fin X m (pc + 3, lv, .ref (h.1.1 + 1) :: st, zz_more h (zz_us x).length (.inr (.inr (x, zz_fs (zz_us x))))) φ) : yy_fin X m (pc, lv, st, h) φ :=
  yy_fin.step1 hT (yy_ofS rfl) kk
theorem yy_fin.callv {i n k : Nat} (hT : zz_T m pc = some (.invokevirtual i, (m2, n, u, w), vv, sw)) (hst : st = as.reverse ++ .ref (k + 1) :: rest) (hn : as.length = n) (hob : (zz_obj h (k + 1) u).isSome = true) (h8 : (rest.map fun v => v.category).sum ≤ 8) (hf : (zz_in (.ref (k + 1) :: as) 0).length ≤ zz_nl m2)
    (kc : yy_fin X m2 (0, zz_in (.ref (k + 1) :: as) (zz_nl m2), [], h) ψ) (kk : ∀ v h', ψ v h' → yy_fin X m (pc + 3, lv, v.toList ++ rest, h') φ) : yy_fin X m (pc, lv, st, h) φ := by
  subst hst
  refine yy_fin.call hT (yy_ofS ?_) hf kc kk
  show zz_cv m2 n u (as.reverse ++ .ref (k + 1) :: rest) h = _
  have hl : as.reverse.length = n := by rw [List.length_reverse, hn]
  have hd : (as.reverse ++ Value.ref (k + 1) :: rest).drop n = .ref (k + 1) :: rest := by rw [← hl, List.drop_left]
  have ht : (as.reverse ++ Value.ref (k + 1) :: rest).take n = as.reverse := by rw [← hl, List.take_left]
  unfold zz_cv
  rw [hd]
  dsimp only
  rw [if_pos ⟨by rw [List.length_append]; omega, hob⟩, ht, List.reverse_reverse]
  unfold zz_call
  rw [if_pos h8]
theorem yy_fin.callsp {i n k : Nat} (hT : zz_T m pc = some (.invokespecial i, (m2, n, u, w), vv, sw)) (hm2 : m2 ≠ 100000) (hst : st = as.reverse ++ .ref (k + 1) :: rest) (hn : as.length = n) (hob : (zz_obj h (k + 1) u).isSome = true) (h8 : (rest.map fun v => v.category).sum ≤ 8) (hf : (zz_in (.ref (k + 1) :: as) 0).length ≤ zz_nl m2)
    (kc : yy_fin X m2 (0, zz_in (.ref (k + 1) :: as) (zz_nl m2), [], h) ψ) (kk : ∀ v h', ψ v h' → yy_fin X m (pc + 3, lv, v.toList ++ rest, h') φ) : yy_fin X m (pc, lv, st, h) φ := by
  subst hst
  refine yy_fin.call hT (yy_ofS ?_) hf kc kk
  simp only [zz_step]
  rw [if_neg hm2]
  have hl : as.reverse.length = n := by rw [List.length_reverse, hn]
  have hd : (as.reverse ++ Value.ref (k + 1) :: rest).drop n = .ref (k + 1) :: rest := by rw [← hl, List.drop_left]
  have ht : (as.reverse ++ Value.ref (k + 1) :: rest).take n = as.reverse := by rw [← hl, List.take_left]
  unfold zz_cv
  rw [hd]
  dsimp only
  rw [if_pos ⟨by rw [List.length_append]; omega, hob⟩, ht, List.reverse_reverse]
  unfold zz_call
  rw [if_pos h8]
theorem yy_fin.calls {i n : Nat} (hT : zz_T m pc = some (.invokestatic i, (m2, n, u, w), vv, sw)) (hm2 : m2 < 100000) (hst : st = as.reverse ++ rest) (hn : as.length = n) (h8 : (rest.map fun v => v.category).sum ≤ 8) (hf : (zz_in as 0).length ≤ zz_nl m2)
    (kc : yy_fin X m2 (0, zz_in as (zz_nl m2), [], h) ψ) (kk : ∀ v h', ψ v h' → yy_fin X m (pc + 3, lv, v.toList ++ rest, h') φ) : yy_fin X m (pc, lv, st, h) φ := by
  subst hst
  refine yy_fin.call hT (yy_ofS ?_) hf kc kk
  simp only [zz_step]
  rw [if_pos hm2]
  have hl : as.reverse.length = n := by rw [List.length_reverse, hn]
  unfold zz_cs
  rw [if_pos (by rw [List.length_append]; omega), show (as.reverse ++ rest).take n = as.reverse by rw [← hl, List.take_left], show (as.reverse ++ rest).drop n = rest by rw [← hl, List.drop_left], List.reverse_reverse]
  unfold zz_call
  rw [if_pos h8]
end YR
