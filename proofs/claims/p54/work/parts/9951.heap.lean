/-! THE LAW'S HEAP: what is there, what a run leaves as it was, what it makes -/
/-- h' is behind h: at most a cells and d slots came; what isn't A's stays -/
def yx (A : Nat → Prop) (a d : Nat) (h h' : zz_H) : Prop := (h.1.1 ≤ h'.1.1 ∧ h'.1.1 ≤ h.1.1 + a) ∧ (h.1.2 ≤ h'.1.2 ∧ h'.1.2 ≤ h.1.2 + d) ∧ (zz_Zr h → zz_Zr h') ∧ ∀ k, k ≤ h.1.1 → ¬ A k → h'.2.1 k = h.2.1 k ∧ h'.2.2 k = h.2.2 k
abbrev yF : Nat → Prop := fun _ => False
theorem yx.rf {A : Nat → Prop} {h : zz_H} : yx A 0 0 h h := ⟨⟨Nat.le_refl _, Nat.le_refl _⟩, ⟨Nat.le_refl _, Nat.le_refl _⟩, id, fun _ _ _ => ⟨rfl, rfl⟩⟩
theorem yx.tr {A B : Nat → Prop} {a d a2 d2 : Nat} {h h1 h2 : zz_H} (x : yx A a d h h1) (y : yx B a2 d2 h1 h2) (hs : ∀ k, k ≤ h.1.1 → B k → A k) : yx A (a + a2) (d + d2) h h2 := by
  obtain ⟨⟨x1, x2⟩, ⟨x3, x4⟩, x5, x6⟩ := x
  obtain ⟨⟨y1, y2⟩, ⟨y3, y4⟩, y5, y6⟩ := y
  refine ⟨⟨by omega, by omega⟩, ⟨by omega, by omega⟩, fun z => y5 (x5 z), fun k hk hA => ?_⟩
  obtain ⟨p1, p2⟩ := x6 k hk hA
  obtain ⟨q1, q2⟩ := y6 k (by omega) (fun e => hA (hs k hk e))
  exact ⟨q1.trans p1, q2.trans p2⟩
theorem yx.wk {A B : Nat → Prop} {a d a2 d2 : Nat} {h h' : zz_H} (x : yx A a d h h') (hs : ∀ k, k ≤ h.1.1 → A k → B k) (ha : a ≤ a2) (hd : d ≤ d2) : yx B a2 d2 h h' := by
  obtain ⟨⟨x1, x2⟩, ⟨x3, x4⟩, x5, x6⟩ := x
  exact ⟨⟨x1, by omega⟩, ⟨x3, by omega⟩, x5, fun k hk hA => x6 k hk fun e => hA (hs k hk e)⟩
theorem yx.le {A : Nat → Prop} {a d a2 d2 : Nat} {h h' : zz_H} (x : yx A a d h h') (ha : a ≤ a2) (hd : d ≤ d2) : yx A a2 d2 h h' := x.wk (fun _ _ e => e) ha hd
theorem yx.up {A : Nat → Prop} {a d : Nat} {h h' : zz_H} (x : yx A a d h h') : h.1.1 ≤ h'.1.1 := x.1.1
theorem yx.zr {A : Nat → Prop} {a d : Nat} {h h' : zz_H} (x : yx A a d h h') (z : zz_Zr h) : zz_Zr h' := x.2.2.1 z
/-- what is there -/
def yO (h : zz_H) (k c : Nat) (fs : List (Option (Option Nat))) : Prop := k ≠ 0 ∧ k < yy_B ∧ zz_obj h k c = some fs
def yI (h : zz_H) (k n : Nat) : Prop := k ≠ 0 ∧ k < yy_B ∧ zz_arr h k 0 = some n
def yY (h : zz_H) (k n : Nat) : Prop := k ≠ 0 ∧ k < yy_B ∧ zz_arr h k 2 = some n
def yR (h : zz_H) (k t : Nat) (rs : List (Option Nat)) : Prop := k ≠ 0 ∧ k < yy_B ∧ zz_rar h k = some (t, rs)
/-- a row of ints that begins so; that is so -/
def yQ (h : zz_H) (k n : Nat) (l : List Int32) : Prop := yI h k n ∧ ∀ j v, l[j]? = some v → h.2.2 k j = v
def yP (h : zz_H) (k : Nat) (l : List Int32) : Prop := yQ h k l.length l
section YH
variable {A : Nat → Prop} {a d k c n t : Nat} {h h' : zz_H} {fs : List (Option (Option Nat))} {rs : List (Option Nat)} {l : List Int32}
theorem yx.lay (x : yx A a d h h') (hk : k ≤ h.1.1) (hA : ¬ A k) : zz_lay h' k = zz_lay h k := by
  unfold zz_lay
  rw [if_pos hk, if_pos (Nat.le_trans hk x.up), (x.2.2.2 k hk hA).1]
theorem yO.le (o : yO h k c fs) : k ≤ h.1.1 := (zz_obj_ok o.2.2).1
theorem yI.le (o : yI h k n) : k ≤ h.1.1 := (zz_arr_ok o.2.2).1
theorem yY.le (o : yY h k n) : k ≤ h.1.1 := (zz_arr_ok o.2.2).1
theorem yR.le (o : yR h k t rs) : k ≤ h.1.1 := (zz_rar_ok o.2.2).1
theorem yO.x (o : yO h k c fs) (x : yx A a d h h') (hA : ¬ A k) : yO h' k c fs := ⟨o.1, o.2.1, by
  have h1 := o.2.2
  unfold zz_obj at h1 ⊢
  rw [x.lay o.le hA]
  exact h1⟩
theorem yI.x (o : yI h k n) (x : yx A a d h h') (hA : ¬ A k) : yI h' k n := ⟨o.1, o.2.1, by
  have h1 := o.2.2
  unfold zz_arr at h1 ⊢
  rw [x.lay o.le hA]
  exact h1⟩
theorem yY.x (o : yY h k n) (x : yx A a d h h') (hA : ¬ A k) : yY h' k n := ⟨o.1, o.2.1, by
  have h1 := o.2.2
  unfold zz_arr at h1 ⊢
  rw [x.lay o.le hA]
  exact h1⟩
theorem yR.x (o : yR h k t rs) (x : yx A a d h h') (hA : ¬ A k) : yR h' k t rs := ⟨o.1, o.2.1, by
  have h1 := o.2.2
  unfold zz_rar at h1 ⊢
  rw [x.lay o.le hA]
  exact h1⟩
theorem yO.i (o : yO h k c fs) (x : yx A a d h h') (hA : ¬ A k) (y : Nat) : h'.2.2 k y = h.2.2 k y := by rw [(x.2.2.2 k o.le hA).2]
theorem yI.i (o : yI h k n) (x : yx A a d h h') (hA : ¬ A k) (y : Nat) : h'.2.2 k y = h.2.2 k y := by rw [(x.2.2.2 k o.le hA).2]
theorem yY.i (o : yY h k n) (x : yx A a d h h') (hA : ¬ A k) (y : Nat) : h'.2.2 k y = h.2.2 k y := by rw [(x.2.2.2 k o.le hA).2]
theorem yQ.x (o : yQ h k n l) (x : yx A a d h h') (hA : ¬ A k) : yQ h' k n l := ⟨o.1.x x hA, fun j v e => (o.1.i x hA j).trans (o.2 j v e)⟩
theorem yP.x (o : yP h k l) (x : yx A a d h h') (hA : ¬ A k) : yP h' k l := yQ.x o x hA
theorem yQ.le (o : yQ h k n l) : k ≤ h.1.1 := o.1.le
theorem yP.le (o : yP h k l) : k ≤ h.1.1 := o.1.le
/-- the numbers of one cell alone change -/
theorem yx_w {j : Nat} {v : Int32} (hk : k ≤ h.1.1) : yx (fun q => q = k) 0 0 h (h.1, (h.2.1, zz_w h.2.2 k j v)) := ⟨⟨Nat.le_refl _, Nat.le_refl _⟩, ⟨Nat.le_refl _, Nat.le_refl _⟩, fun z q hq => by
    show zz_w h.2.2 k j v q = _
    rw [zz_w_other _ _ _ (by have hq : h.1.1 < q := hq; omega)]
    exact z q hq, fun q _ hq => ⟨rfl, by
    show zz_w h.2.2 k j v q = _
    exact zz_w_other _ _ _ hq⟩⟩
theorem yx_s {q : zz_L} (hk : k ≤ h.1.1) : yx (fun q => q = k) 0 0 h (h.1, (zz_up h.2.1 k q, h.2.2)) := ⟨⟨Nat.le_refl _, Nat.le_refl _⟩, ⟨Nat.le_refl _, Nat.le_refl _⟩, fun z => z, fun a _ ha => ⟨by
    show zz_up h.2.1 k q a = _
    exact zz_up_other _ _ ha, rfl⟩⟩
theorem yx_c {f : Nat → Int32} (hk : k ≤ h.1.1) : yx (fun q => q = k) 0 0 h (h.1, (h.2.1, zz_up h.2.2 k f)) := ⟨⟨Nat.le_refl _, Nat.le_refl _⟩, ⟨Nat.le_refl _, Nat.le_refl _⟩, fun z q hq => by
    show zz_up h.2.2 k f q = _
    rw [zz_up_other _ _ (by have hq : h.1.1 < q := hq; omega)]
    exact z q hq, fun q _ hq => ⟨rfl, by
    show zz_up h.2.2 k f q = _
    exact zz_up_other _ _ hq⟩⟩
theorem yx_n {q : zz_L} {f : Nat → Int32} : yx yF 1 n h ((h.1.1 + 1, h.1.2 + n), (zz_up h.2.1 (h.1.1 + 1) q, zz_up h.2.2 (h.1.1 + 1) f)) := ⟨⟨Nat.le_succ _, Nat.le_refl _⟩, ⟨Nat.le_add_right _ _, Nat.le_refl _⟩, fun z a ha => by
    have ha : h.1.1 + 1 < a := ha
    show zz_up h.2.2 (h.1.1 + 1) f a = _
    rw [zz_up_other _ _ (by omega)]
    exact z a (by omega), fun a ha _ => ⟨by
    show zz_up h.2.1 (h.1.1 + 1) q a = _
    exact zz_up_other _ _ (by omega), by
    show zz_up h.2.2 (h.1.1 + 1) f a = _
    exact zz_up_other _ _ (by omega)⟩⟩
theorem yx_m {q : zz_L} : yx yF 1 n h (zz_more h n q) := ⟨⟨Nat.le_succ _, Nat.le_refl _⟩, ⟨Nat.le_add_right _ _, Nat.le_refl _⟩, fun z a ha => z a (by have ha : h.1.1 + 1 < a := ha; omega), fun a ha _ => ⟨by
    show zz_up h.2.1 (h.1.1 + 1) q a = _
    exact zz_up_other _ _ (by omega), rfl⟩⟩
theorem zz_lay_up {q : zz_L} {g : Nat → Nat → Int32} {s : Nat} : zz_lay ((h.1.1 + 1, s), (zz_up h.2.1 (h.1.1 + 1) q, g)) (h.1.1 + 1) = some q := by
  unfold zz_lay
  rw [if_pos (Nat.le_refl _)]
  show some (zz_up h.2.1 (h.1.1 + 1) q (h.1.1 + 1)) = _
  rw [zz_up_self]
theorem yI_new {g : Nat → Nat → Int32} {s : Nat} (hB : h.1.1 + 1 < yy_B) : yI ((h.1.1 + 1, s), (zz_up h.2.1 (h.1.1 + 1) (.inl (0, n)), g)) (h.1.1 + 1) n := ⟨Nat.succ_ne_zero _, hB, by
  unfold zz_arr
  rw [zz_lay_up]
  rfl⟩
theorem yY_new {g : Nat → Nat → Int32} {s : Nat} (hB : h.1.1 + 1 < yy_B) : yY ((h.1.1 + 1, s), (zz_up h.2.1 (h.1.1 + 1) (.inl (2, n)), g)) (h.1.1 + 1) n := ⟨Nat.succ_ne_zero _, hB, by
  unfold zz_arr
  rw [zz_lay_up]
  rfl⟩
theorem yR_new {g : Nat → Nat → Int32} {s : Nat} (hB : h.1.1 + 1 < yy_B) : yR ((h.1.1 + 1, s), (zz_up h.2.1 (h.1.1 + 1) (.inr (.inl (t, rs))), g)) (h.1.1 + 1) t rs := ⟨Nat.succ_ne_zero _, hB, by
  unfold zz_rar
  rw [zz_lay_up]⟩
theorem yO_new {g : Nat → Nat → Int32} {s : Nat} (hB : h.1.1 + 1 < yy_B) : yO ((h.1.1 + 1, s), (zz_up h.2.1 (h.1.1 + 1) (.inr (.inr (c, fs))), g)) (h.1.1 + 1) c fs := ⟨Nat.succ_ne_zero _, hB, by
  unfold zz_obj
  rw [zz_lay_up]
  exact if_pos rfl⟩
theorem yO_w {j q : Nat} {v : Int32} (o : yO h k c fs) : yO (h.1, (h.2.1, zz_w h.2.2 q j v)) k c fs := o
theorem yI_w {j q : Nat} {v : Int32} (o : yI h k n) : yI (h.1, (h.2.1, zz_w h.2.2 q j v)) k n := o
theorem yO_s {fs2 : List (Option (Option Nat))} (o : yO h k c fs) : yO (h.1, (zz_up h.2.1 k (.inr (.inr (c, fs2))), h.2.2)) k c fs2 := ⟨o.1, o.2.1, by
  have hk := o.le
  unfold zz_obj zz_lay
  rw [if_pos (show k ≤ h.1.1 from hk)]
  show (match some (zz_up h.2.1 k (.inr (.inr (c, fs2))) k) with
    | some (.inr (.inr (c2, fs))) => if c2 = c then some fs else none
    | _ => none) = _
  rw [zz_up_self]
  exact if_pos rfl⟩
theorem yR_s {rs2 : List (Option Nat)} (o : yR h k t rs) : yR (h.1, (zz_up h.2.1 k (.inr (.inl (t, rs2))), h.2.2)) k t rs2 := ⟨o.1, o.2.1, by
  have hk := o.le
  unfold zz_rar zz_lay
  rw [if_pos (show k ≤ h.1.1 from hk)]
  show (match some (zz_up h.2.1 k (.inr (.inl (t, rs2))) k) with
    | some (.inr (.inl q)) => some q
    | _ => none) = _
  rw [zz_up_self]⟩
end YH
theorem yy_w_at (g : Nat → Nat → Int32) (k j : Nat) (v : Int32) : zz_w g k j v k j = v := by
  rw [zz_w_self]
  exact if_pos rfl
theorem yy_w_ne (g : Nat → Nat → Int32) (k j : Nat) (v : Int32) {i : Nat} (hi : i ≠ j) : zz_w g k j v k i = g k i := by
  rw [zz_w_self]
  exact if_neg hi
/-! steps that read, write, make -/
section YN
variable {X : yy_X} {m m2 pc : Nat} {lv : zz_V} {st as rest r : List Value} {h h' : zz_H} {φ ψ : Option Value → zz_H → Prop} {x y u w : Nat} {vv : Value} {sw : List (Int × Nat)} {k c n t : Nat} {fs : List (Option (Option Nat))} {rs : List (Option Nat)} {l : List Int32}
theorem yy_fin.fi {i : Nat} {a : Int32} (hT : zz_T m pc = some (.getfield i, (x, y, u, w), vv, sw)) (o : yO h k x fs) (hf : fs[y]? = some none) (e : h.2.2 k y = a) (kk : yy_fin X m (pc + 3, lv, .int a :: r, h) φ) : yy_fin X m (pc, lv, .ref k :: r, h) φ := by
  obtain ⟨q, rfl⟩ := Nat.exists_eq_succ_of_ne_zero o.1
  subst e
  exact yy_fin.get hT o.2.2 hf kk
theorem yy_fin.fr {i q : Nat} (hT : zz_T m pc = some (.getfield i, (x, y, u, w), vv, sw)) (o : yO h k x fs) (hf : fs[y]? = some (some (some q))) (kk : yy_fin X m (pc + 3, lv, .ref q :: r, h) φ) : yy_fin X m (pc, lv, .ref k :: r, h) φ := by
  obtain ⟨j, rfl⟩ := Nat.exists_eq_succ_of_ne_zero o.1
  exact yy_fin.getr hT o.2.2 hf kk
theorem yy_fin.fq {i : Nat} {q : Option Nat} (hT : zz_T m pc = some (.getfield i, (x, y, u, w), vv, sw)) (o : yO h k x fs) (hf : fs[y]? = some (some q)) (kk : yy_fin X m (pc + 3, lv, zz_val q :: r, h) φ) : yy_fin X m (pc, lv, .ref k :: r, h) φ := by
  obtain ⟨j, rfl⟩ := Nat.exists_eq_succ_of_ne_zero o.1
  exact yy_fin.getr hT o.2.2 hf kk
theorem yy_fin.wi {i : Nat} {a : Int32} (hT : zz_T m pc = some (.putfield i, (x, y, u, w), vv, sw)) (o : yO h k x fs) (hf : fs[y]? = some none) (hu : u = 0 ∨ (u = 1 ∧ (a = 0 ∨ a = 1))) (kk : ∀ h', yx (fun q => q = k) 0 0 h h' → yO h' k x fs → h'.2.2 k y = a → (∀ j, j ≠ y → h'.2.2 k j = h.2.2 k j) → yy_fin X m (pc + 3, lv, r, h') φ) : yy_fin X m (pc, lv, .int a :: .ref k :: r, h) φ := by
  obtain ⟨q, rfl⟩ := Nat.exists_eq_succ_of_ne_zero o.1
  exact yy_fin.put hT o.2.2 hf hu (kk _ (yx_w o.le) (yO_w o) (yy_w_at _ _ _ _) fun j hj => yy_w_ne _ _ _ _ hj)
theorem yy_fin.wr {i q : Nat} {q0 : Option Nat} (hT : zz_T m pc = some (.putfield i, (x, y, 2, w), vv, sw)) (o : yO h k x fs) (hf : fs[y]? = some (some q0)) (kk : ∀ h', yx (fun q => q = k) 0 0 h h' → yO h' k x (fs.set y (some (some q))) → (∀ j, h'.2.2 k j = h.2.2 k j) → yy_fin X m (pc + 3, lv, r, h') φ) : yy_fin X m (pc, lv, .ref q :: .ref k :: r, h) φ := by
  obtain ⟨j, rfl⟩ := Nat.exists_eq_succ_of_ne_zero o.1
  exact yy_fin.putr hT o.2.2 hf (kk _ (yx_s o.le) (yO_s o) fun j => rfl)
theorem yy_fin.li {i a : Int32} {j : Nat} (hT : zz_T m pc = some (.iaload, (x, y, u, w), vv, sw)) (o : yI h k n) (hi : zz_inb i n = true) (hj : i.toNatClampNeg = j) (e : h.2.2 k j = a) (kk : yy_fin X m (pc + 1, lv, .int a :: r, h) φ) : yy_fin X m (pc, lv, .int i :: .ref k :: r, h) φ := by
  obtain ⟨q, rfl⟩ := Nat.exists_eq_succ_of_ne_zero o.1
  subst hj
  subst e
  exact yy_fin.ial hT o.2.2 hi kk
/-- a row of ints that is known, at a place that is known -/
theorem yy_fin.lp {i a : Int32} {j : Nat} (hT : zz_T m pc = some (.iaload, (x, y, u, w), vv, sw)) (o : yQ h k n l) (hi : zz_inb i n = true) (hj : i.toNatClampNeg = j) (e : l[j]? = some a) (kk : yy_fin X m (pc + 1, lv, .int a :: r, h) φ) : yy_fin X m (pc, lv, .int i :: .ref k :: r, h) φ := yy_fin.li hT o.1 hi hj (o.2 j a e) kk
theorem yy_fin.si {i v : Int32} {j : Nat} (hT : zz_T m pc = some (.iastore, (x, y, u, w), vv, sw)) (o : yI h k n) (hi : zz_inb i n = true) (hj : i.toNatClampNeg = j) (kk : ∀ h', yx (fun q => q = k) 0 0 h h' → yI h' k n → h'.2.2 k j = v → (∀ q, q ≠ j → h'.2.2 k q = h.2.2 k q) → yy_fin X m (pc + 1, lv, r, h') φ) : yy_fin X m (pc, lv, .int v :: .int i :: .ref k :: r, h) φ := by
  obtain ⟨q, rfl⟩ := Nat.exists_eq_succ_of_ne_zero o.1
  subst hj
  exact yy_fin.ias hT o.2.2 hi (kk _ (yx_w o.le) (yI_w o) (yy_w_at _ _ _ _) fun j hj => yy_w_ne _ _ _ _ hj)
/-- the next place of a row that is being filled -/
theorem yy_fin.sq {i v : Int32} (hT : zz_T m pc = some (.iastore, (x, y, u, w), vv, sw)) (o : yQ h k n l) (hi : zz_inb i n = true) (hj : i.toNatClampNeg = l.length) (kk : ∀ h', yx (fun q => q = k) 0 0 h h' → yQ h' k n (l ++ [v]) → yy_fin X m (pc + 1, lv, r, h') φ) : yy_fin X m (pc, lv, .int v :: .int i :: .ref k :: r, h) φ := by
  refine yy_fin.si hT o.1 hi hj fun h' x' i' e1 e2 => kk h' x' ⟨i', fun j a ej => ?_⟩
  by_cases hl : j < l.length
  · rw [List.getElem?_append_left hl] at ej
    rw [e2 j (by omega)]
    exact o.2 j a ej
  · rw [List.getElem?_append_right (by omega)] at ej
    have : j = l.length := by
      have := (List.getElem?_eq_some_iff.mp ej).1
      simp only [List.length_singleton] at this
      omega
    subst this
    rw [Nat.sub_self] at ej
    cases ej
    exact e1
/-- a place of a row that is known -/
theorem yy_fin.sp {i v : Int32} {j : Nat} (hT : zz_T m pc = some (.iastore, (x, y, u, w), vv, sw)) (o : yQ h k n l) (hi : zz_inb i n = true) (hj : i.toNatClampNeg = j) (hl : j < l.length) (kk : ∀ h', yx (fun q => q = k) 0 0 h h' → yQ h' k n (l.set j v) → yy_fin X m (pc + 1, lv, r, h') φ) : yy_fin X m (pc, lv, .int v :: .int i :: .ref k :: r, h) φ := by
  refine yy_fin.si hT o.1 hi hj fun h' x' i' e1 e2 => kk h' x' ⟨i', fun q a eq => ?_⟩
  rw [List.getElem?_set] at eq
  by_cases hq : j = q
  · subst hq
    rw [if_pos rfl, if_pos hl] at eq
    cases eq
    exact e1
  · rw [if_neg hq] at eq
    rw [e2 q (Ne.symm hq)]
    exact o.2 q a eq
theorem yy_fin.ni {i : Int32} {t : ArrayType} (hT : zz_T m pc = some (.newarray t, (0, y, u, w), vv, sw)) (hn : ¬ i < 0) (hj : i.toNatClampNeg = n) (hn2 : n ≤ 100000) (hB : h.1.1 + 1 < yy_B) (hz : zz_Zr h) (kk : ∀ h', yx yF 1 n h h' → h'.1.1 = h.1.1 + 1 → yI h' (h.1.1 + 1) n → (∀ j, h'.2.2 (h.1.1 + 1) j = 0) → yy_fin X m (pc + 2, lv, .ref (h.1.1 + 1) :: r, h') φ) : yy_fin X m (pc, lv, .int i :: r, h) φ := by
  subst hj
  refine yy_fin.nar hT (fun z => z.elim hn (fun z => by omega)) (kk _ yx_m rfl (yI_new hB) fun j => ?_)
  show h.2.2 (h.1.1 + 1) j = 0
  rw [hz _ (Nat.lt_succ_self _)]
theorem yy_fin.nb {i : Int32} {t : ArrayType} (hT : zz_T m pc = some (.newarray t, (2, y, u, w), vv, sw)) (hn : ¬ i < 0) (hj : i.toNatClampNeg = n) (hn2 : n ≤ 100000) (hB : h.1.1 + 1 < yy_B) (hz : zz_Zr h) (kk : ∀ h', yx yF 1 n h h' → h'.1.1 = h.1.1 + 1 → yY h' (h.1.1 + 1) n → (∀ j, h'.2.2 (h.1.1 + 1) j = 0) → yy_fin X m (pc + 2, lv, .ref (h.1.1 + 1) :: r, h') φ) : yy_fin X m (pc, lv, .int i :: r, h) φ := by
  subst hj
  refine yy_fin.nar hT (fun z => z.elim hn (fun z => by omega)) (kk _ yx_m rfl (yY_new hB) fun j => ?_)
  show h.2.2 (h.1.1 + 1) j = 0
  rw [hz _ (Nat.lt_succ_self _)]
theorem yy_fin.nr {i : Int32} {j : Nat} (hT : zz_T m pc = some (.anewarray j, (t, y, u, w), vv, sw)) (hn : ¬ i < 0) (hj : i.toNatClampNeg = n) (hn2 : n ≤ 100000) (hB : h.1.1 + 1 < yy_B) (kk : ∀ h', yx yF 1 n h h' → h'.1.1 = h.1.1 + 1 → yR h' (h.1.1 + 1) t (List.replicate n none) → yy_fin X m (pc + 3, lv, .ref (h.1.1 + 1) :: r, h') φ) : yy_fin X m (pc, lv, .int i :: r, h) φ := by
  subst hj
  exact yy_fin.anr hT (fun z => z.elim hn (fun z => by omega)) (kk _ yx_m rfl (yR_new hB))
theorem yy_fin.no {i : Nat} (hT : zz_T m pc = some (.new i, (x, y, u, w), vv, sw)) (hB : h.1.1 + 1 < yy_B) (hz : zz_Zr h) (kk : ∀ h', yx yF 1 (zz_us x).length h h' → h'.1.1 = h.1.1 + 1 → yO h' (h.1.1 + 1) x (zz_fs (zz_us x)) → (∀ j, h'.2.2 (h.1.1 + 1) j = 0) → yy_fin X m (pc + 3, lv, .ref (h.1.1 + 1) :: st, h') φ) : yy_fin X m (pc, lv, st, h) φ := by
  refine yy_fin.new hT (kk _ yx_m rfl (yO_new hB) fun j => ?_)
  show h.2.2 (h.1.1 + 1) j = 0
  rw [hz _ (Nat.lt_succ_self _)]
theorem yy_fin.ll (hT : zz_T m pc = some (.arraylength, (x, y, u, w), vv, sw)) (o : yI h k n) (kk : yy_fin X m (pc + 1, lv, .int (Int32.ofNat n) :: r, h) φ) : yy_fin X m (pc, lv, .ref k :: r, h) φ := by
  obtain ⟨q, rfl⟩ := Nat.exists_eq_succ_of_ne_zero o.1
  exact yy_fin.len hT o.2.2 (by decide) kk
theorem yy_fin.lb (hT : zz_T m pc = some (.arraylength, (x, y, u, w), vv, sw)) (o : yY h k n) (kk : yy_fin X m (pc + 1, lv, .int (Int32.ofNat n) :: r, h) φ) : yy_fin X m (pc, lv, .ref k :: r, h) φ := by
  obtain ⟨q, rfl⟩ := Nat.exists_eq_succ_of_ne_zero o.1
  exact yy_fin.len hT o.2.2 (by decide) kk
theorem yy_fin.lr (hT : zz_T m pc = some (.arraylength, (x, y, u, w), vv, sw)) (o : yR h k t rs) (ht : t < 9) (kk : yy_fin X m (pc + 1, lv, .int (Int32.ofNat rs.length) :: r, h) φ) : yy_fin X m (pc, lv, .ref k :: r, h) φ := by
  obtain ⟨q, rfl⟩ := Nat.exists_eq_succ_of_ne_zero o.1
  exact yy_fin.lenr hT o.2.2 ht o.2.1 kk
theorem yy_fin.ar {i : Int32} {j : Nat} {q : Option Nat} (hT : zz_T m pc = some (.aaload, (x, y, u, w), vv, sw)) (o : yR h k t rs) (ht : 5 ≤ t ∧ t ≤ 8) (hi : zz_inb i rs.length = true) (hj : i.toNatClampNeg = j) (hq : rs[j]? = some q) (kk : yy_fin X m (pc + 1, lv, zz_val q :: r, h) φ) : yy_fin X m (pc, lv, .int i :: .ref k :: r, h) φ := by
  obtain ⟨a, rfl⟩ := Nat.exists_eq_succ_of_ne_zero o.1
  subst hj
  exact yy_fin.aal hT o.2.2 ht hi hq kk
theorem yy_fin.aw {i : Int32} {j q : Nat} (hT : zz_T m pc = some (.aastore, (x, y, u, w), vv, sw)) (o : yR h k t rs) (ht : 5 ≤ t ∧ t ≤ 8) (hi : zz_inb i rs.length = true) (hj : i.toNatClampNeg = j) (hq0 : q ≠ 0) (hq : yy_kd h t q = true) (kk : ∀ h', yx (fun a => a = k) 0 0 h h' → yR h' k t (rs.set j (some q)) → yy_fin X m (pc + 1, lv, r, h') φ) : yy_fin X m (pc, lv, .ref q :: .int i :: .ref k :: r, h) φ := by
  obtain ⟨a, rfl⟩ := Nat.exists_eq_succ_of_ne_zero o.1
  obtain ⟨b, rfl⟩ := Nat.exists_eq_succ_of_ne_zero hq0
  subst hj
  exact yy_fin.aas hT o.2.2 ht hi hq (kk _ (yx_s o.le) (yR_s o))
theorem yy_fin.asN' {i : Int32} {j : Nat} (hT : zz_T m pc = some (.aastore, (x, y, u, w), vv, sw)) (o : yR h k 5 rs) (hi : zz_inb i rs.length = true) (hj : i.toNatClampNeg = j) (kk : ∀ h', yx (fun a => a = k) 0 0 h h' → yR h' k 5 (rs.set j none) → yy_fin X m (pc + 1, lv, r, h') φ) : yy_fin X m (pc, lv, .null :: .int i :: .ref k :: r, h) φ := by
  obtain ⟨a, rfl⟩ := Nat.exists_eq_succ_of_ne_zero o.1
  subst hj
  exact yy_fin.aasN hT o.2.2 rfl hi (kk _ (yx_s o.le) (yR_s o))
theorem yy_fin.cv {i n : Nat} (hT : zz_T m pc = some (.invokevirtual i, (m2, n, u, w), vv, sw)) (hst : st = as.reverse ++ .ref k :: rest) (hn : as.length = n) (o : yO h k u fs) (h8 : (rest.map fun v => v.category).sum ≤ 8) (hf : (zz_in (.ref k :: as) 0).length ≤ zz_nl m2)
    (kc : yy_fin X m2 (0, zz_in (.ref k :: as) (zz_nl m2), [], h) ψ) (kk : ∀ v h', ψ v h' → yy_fin X m (pc + 3, lv, v.toList ++ rest, h') φ) : yy_fin X m (pc, lv, st, h) φ := by
  obtain ⟨a, rfl⟩ := Nat.exists_eq_succ_of_ne_zero o.1
  exact yy_fin.callv hT hst hn (by rw [o.2.2]; rfl) h8 hf kc kk
theorem yy_fin.cp {i n : Nat} (hT : zz_T m pc = some (.invokespecial i, (m2, n, u, w), vv, sw)) (hm2 : m2 ≠ 100000) (hst : st = as.reverse ++ .ref k :: rest) (hn : as.length = n) (o : yO h k u fs) (h8 : (rest.map fun v => v.category).sum ≤ 8) (hf : (zz_in (.ref k :: as) 0).length ≤ zz_nl m2)
    (kc : yy_fin X m2 (0, zz_in (.ref k :: as) (zz_nl m2), [], h) ψ) (kk : ∀ v h', ψ v h' → yy_fin X m (pc + 3, lv, v.toList ++ rest, h') φ) : yy_fin X m (pc, lv, st, h) φ := by
  obtain ⟨a, rfl⟩ := Nat.exists_eq_succ_of_ne_zero o.1
  exact yy_fin.callsp hT hm2 hst hn (by rw [o.2.2]; rfl) h8 hf kc kk
/-- a call on an old text -/
theorem yy_fin.co {i n : Nat} (hT : zz_T m pc = some (.invokevirtual i, (m2, n, 14, w), vv, sw)) (hst : st = as.reverse ++ .ref k :: rest) (hn : as.length = n) (o1 : yy_B ≤ k) (o2 : k - yy_B < yy_O.1) (hk : h.1.1 < yy_B) (hm : ¬ 100005 ≤ m2) (h8 : (rest.map fun v => v.category).sum ≤ 8) (hf : (zz_in (.ref k :: as) 0).length ≤ zz_nl m2)
    (kc : yy_fin X m2 (0, zz_in (.ref k :: as) (zz_nl m2), [], h) ψ) (kk : ∀ v h', ψ v h' → yy_fin X m (pc + 3, lv, v.toList ++ rest, h') φ) : yy_fin X m (pc, lv, st, h) φ := by
  subst hst
  have hl : as.reverse.length = n := by rw [List.length_reverse, hn]
  have hd : (as.reverse ++ Value.ref k :: rest).drop n = .ref k :: rest := by rw [← hl, List.drop_left]
  have ht : (as.reverse ++ Value.ref k :: rest).take n = as.reverse := by rw [← hl, List.take_left]
  refine yy_fin.call hT (yy_ofN ?_ ?_) hf kc kk
  · show zz_cv m2 n 14 (as.reverse ++ .ref k :: rest) h = none
    unfold zz_cv
    rw [hd]
    dsimp only
    cases k with
    | zero => rfl
    | succ k =>
      dsimp only
      refine if_neg fun z => ?_
      obtain ⟨fs, ho⟩ := Option.isSome_iff_exists.mp z.2
      have := (zz_obj_ok ho).1
      omega
  · show (if 100005 ≤ m2 then yy_cln (m2 - 100005) pc lv (as.reverse ++ .ref k :: rest) h else yy_cv yy_O m2 n 14 (as.reverse ++ .ref k :: rest)) = _
    rw [if_neg hm, yy_cv_old hn o1 o2]
    unfold zz_call
    rw [if_pos h8]
theorem yy_fin.dv {a b : Int32} (hT : zz_T m pc = some (.idiv, (x, y, u, w), vv, sw)) (hb : b ≠ 0) (kk : yy_fin X m (pc + 1, lv, .int (a / b) :: r, h) φ) : yy_fin X m (pc, lv, .int b :: .int a :: r, h) φ :=
  yy_fin.step1 hT (yy_ofS (by simp only [zz_step]; rw [if_neg hb]; rfl)) kk
theorem yy_fin.rm {a b : Int32} (hT : zz_T m pc = some (.irem, (x, y, u, w), vv, sw)) (hb : b ≠ 0) (kk : yy_fin X m (pc + 1, lv, .int (a - a / b * b) :: r, h) φ) : yy_fin X m (pc, lv, .int b :: .int a :: r, h) φ :=
  yy_fin.step1 hT (yy_ofS (by simp only [zz_step]; rw [if_neg hb]; rfl)) kk
theorem yy_fin.ld {a b : Int64} (hT : zz_T m pc = some (.ldiv, (x, y, u, w), vv, sw)) (hb : b ≠ 0) (kk : yy_fin X m (pc + 1, lv, .long (a / b) :: r, h) φ) : yy_fin X m (pc, lv, .long b :: .long a :: r, h) φ :=
  yy_fin.step1 hT (yy_ofS (by simp only [zz_step]; rw [if_neg hb]; rfl)) kk
theorem yy_fin.lm {a b : Int64} (hT : zz_T m pc = some (.lrem, (x, y, u, w), vv, sw)) (hb : b ≠ 0) (kk : yy_fin X m (pc + 1, lv, .long (a - a / b * b) :: r, h) φ) : yy_fin X m (pc, lv, .long b :: .long a :: r, h) φ :=
  yy_fin.step1 hT (yy_ofN rfl (by simp only [yy_more]; rw [if_neg hb]; rfl)) kk
/-- copies of rows -/
theorem yy_fin.ci {i0 : Nat} (hT : zz_T m pc = some (.invokevirtual i0, (100005, 0, 0, w), vv, sw)) (o : yQ h k n l) (hB : h.1.1 + 1 < yy_B) (h8 : (r.map fun v => v.category).sum ≤ 8) (kk : ∀ h', yx yF 1 n h h' → h'.1.1 = h.1.1 + 1 → yQ h' (h.1.1 + 1) n l → yy_fin X m (pc + 3, lv, .ref (h.1.1 + 1) :: r, h') φ) : yy_fin X m (pc, lv, .ref k :: r, h) φ := by
  obtain ⟨q, rfl⟩ := Nat.exists_eq_succ_of_ne_zero o.1.1
  obtain ⟨hle, hlay⟩ := zz_arr_ok o.1.2.2
  refine yy_fin.step1 hT (yy_ofN ?_ ?_) (kk ((h.1.1 + 1, h.1.2 + n), (zz_up h.2.1 (h.1.1 + 1) (.inl (0, n)), zz_up h.2.2 (h.1.1 + 1) (h.2.2 (q + 1)))) yx_n rfl ⟨yI_new hB, fun j v e => ?_⟩)
  · show zz_cv 100005 0 0 (.ref (q + 1) :: r) h = none
    unfold zz_cv zz_obj zz_lay
    rw [List.drop_zero]
    dsimp only
    rw [if_pos hle, hlay]
    exact if_neg fun z => by cases z.2
  · show yy_cln 0 pc lv (.ref (q + 1) :: r) h = _
    unfold yy_cln zz_lay
    dsimp only
    rw [if_pos h8, if_pos hle, hlay]
    dsimp only
    rw [if_pos ⟨rfl, Or.inl rfl⟩]
    rfl
  · show zz_up h.2.2 (h.1.1 + 1) (h.2.2 (q + 1)) (h.1.1 + 1) j = v
    rw [zz_up_self]
    exact o.2 j v e
theorem yy_fin.cr {i0 : Nat} (hT : zz_T m pc = some (.invokevirtual i0, (100010, 0, 0, w), vv, sw)) (o : yR h k 5 rs) (hB : h.1.1 + 1 < yy_B) (h8 : (r.map fun v => v.category).sum ≤ 8) (kk : ∀ h', yx yF 1 rs.length h h' → h'.1.1 = h.1.1 + 1 → yR h' (h.1.1 + 1) 5 rs → yy_fin X m (pc + 3, lv, .ref (h.1.1 + 1) :: r, h') φ) : yy_fin X m (pc, lv, .ref k :: r, h) φ := by
  obtain ⟨q, rfl⟩ := Nat.exists_eq_succ_of_ne_zero o.1
  obtain ⟨hle, hlay⟩ := zz_rar_ok o.2.2
  refine yy_fin.step1 hT (yy_ofN ?_ ?_) (kk ((h.1.1 + 1, h.1.2 + rs.length), (zz_up h.2.1 (h.1.1 + 1) (.inr (.inl (5, rs))), h.2.2)) yx_m rfl (yR_new hB))
  · show zz_cv 100010 0 0 (.ref (q + 1) :: r) h = none
    unfold zz_cv zz_obj zz_lay
    rw [List.drop_zero]
    dsimp only
    rw [if_pos hle, hlay]
    exact if_neg fun z => by cases z.2
  · show yy_cln 5 pc lv (.ref (q + 1) :: r) h = _
    unfold yy_cln zz_lay
    dsimp only
    rw [if_pos h8, if_pos hle, hlay]
    dsimp only
    rw [if_pos ⟨rfl, rfl⟩]
    rfl
theorem yy_fin.cb {i0 : Nat} (hT : zz_T m pc = some (.invokevirtual i0, (100007, 0, 0, w), vv, sw)) (o : yY h k n) (hb : ∀ j, j < n → 0 ≤ (h.2.2 k j).toInt ∧ (h.2.2 k j).toInt ≤ 127) (hB : h.1.1 + 1 < yy_B) (h8 : (r.map fun v => v.category).sum ≤ 8) (kk : ∀ h', yx yF 1 n h h' → h'.1.1 = h.1.1 + 1 → yY h' (h.1.1 + 1) n → (∀ j, h'.2.2 (h.1.1 + 1) j = h.2.2 k j) → yy_fin X m (pc + 3, lv, .ref (h.1.1 + 1) :: r, h') φ) : yy_fin X m (pc, lv, .ref k :: r, h) φ := by
  obtain ⟨q, rfl⟩ : ∃ q, k = q + 1 := Nat.exists_eq_succ_of_ne_zero o.1
  obtain ⟨hle, hlay⟩ := zz_arr_ok o.2.2
  have hfit : (List.range n).all (fun j => yy_fb (h.2.2 (q + 1) j)) = true := List.all_eq_true.mpr fun j hj => by
    have := hb j (List.mem_range.mp hj)
    refine decide_eq_true ⟨Int32.le_iff_toInt_le.mpr ?_, Int32.le_iff_toInt_le.mpr ?_⟩
    · rw [show (-128 : Int32).toInt = -128 from rfl]
      omega
    · rw [show (127 : Int32).toInt = 127 from rfl]
      omega
  refine yy_fin.step1 hT (yy_ofN ?_ ?_) (kk ((h.1.1 + 1, h.1.2 + n), (zz_up h.2.1 (h.1.1 + 1) (.inl (2, n)), zz_up h.2.2 (h.1.1 + 1) (h.2.2 (q + 1)))) yx_n rfl (yY_new hB) fun j => ?_)
  · show zz_cv 100007 0 0 (.ref (q + 1) :: r) h = none
    unfold zz_cv zz_obj zz_lay
    rw [List.drop_zero]
    dsimp only
    rw [if_pos hle, hlay]
    exact if_neg fun z => by cases z.2
  · show yy_cln 2 pc lv (.ref (q + 1) :: r) h = _
    unfold yy_cln zz_lay
    dsimp only
    rw [if_pos h8, if_pos hle, hlay]
    dsimp only
    rw [if_pos ⟨rfl, Or.inr ⟨rfl, hfit⟩⟩]
    rfl
  · show zz_up h.2.2 (h.1.1 + 1) (h.2.2 (q + 1)) (h.1.1 + 1) j = _
    rw [zz_up_self]
theorem yy_fin.kb {i0 : Nat} (hT : zz_T m pc = some (.checkcast i0, (2, y, u, w), vv, sw)) (o : yY h k n) (kk : yy_fin X m (pc + 3, lv, .ref k :: r, h) φ) : yy_fin X m (pc, lv, .ref k :: r, h) φ := by
  obtain ⟨q, rfl⟩ := Nat.exists_eq_succ_of_ne_zero o.1
  obtain ⟨hle, hlay⟩ := zz_arr_ok o.2.2
  refine yy_fin.step1 hT (yy_ofN rfl ?_) kk
  show yy_cst 2 pc lv (.ref (q + 1) :: r) h = _
  unfold yy_cst zz_lay
  dsimp only
  rw [if_pos hle, hlay]
  dsimp only
  rw [if_pos ⟨rfl, Or.inr rfl⟩]
  rfl
theorem yy_fin.ki {i0 : Nat} (hT : zz_T m pc = some (.checkcast i0, (0, y, u, w), vv, sw)) (o : yI h k n) (kk : yy_fin X m (pc + 3, lv, .ref k :: r, h) φ) : yy_fin X m (pc, lv, .ref k :: r, h) φ := by
  obtain ⟨q, rfl⟩ := Nat.exists_eq_succ_of_ne_zero o.1
  obtain ⟨hle, hlay⟩ := zz_arr_ok o.2.2
  refine yy_fin.step1 hT (yy_ofN rfl ?_) kk
  show yy_cst 0 pc lv (.ref (q + 1) :: r) h = _
  unfold yy_cst zz_lay
  dsimp only
  rw [if_pos hle, hlay]
  dsimp only
  rw [if_pos ⟨rfl, Or.inl rfl⟩]
  rfl
theorem yy_fin.kr {i0 : Nat} (hT : zz_T m pc = some (.checkcast i0, (5, y, u, w), vv, sw)) (o : yR h k 5 rs) (kk : yy_fin X m (pc + 3, lv, .ref k :: r, h) φ) : yy_fin X m (pc, lv, .ref k :: r, h) φ := by
  obtain ⟨q, rfl⟩ := Nat.exists_eq_succ_of_ne_zero o.1
  obtain ⟨hle, hlay⟩ := zz_rar_ok o.2.2
  refine yy_fin.step1 hT (yy_ofN rfl ?_) kk
  show yy_cst 5 pc lv (.ref (q + 1) :: r) h = _
  unfold yy_cst zz_lay
  dsimp only
  rw [if_pos hle, hlay]
  dsimp only
  rw [if_pos ⟨rfl, rfl⟩]
  rfl
end YN
