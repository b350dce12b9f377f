/-! THE WORLD: how the numbered cells lie in the heap -/
theorem zz_bt (k : Nat) : Nat.beq k k = true := Nat.beq_refl k
theorem zz_bf {a k : Nat} (h : a ≠ k) : Nat.beq a k = false := by
  cases hb : Nat.beq a k with
  | false => rfl
  | true => exact absurd (Nat.eq_of_beq_eq_true hb) h
theorem zz_up_self {α : Type} (f : Nat → α) (k : Nat) (v : α) : zz_up f k v k = v := by
  unfold zz_up
  rw [zz_bt]
  rfl
theorem zz_up_other {α : Type} (f : Nat → α) {k a : Nat} (v : α) (ha : a ≠ k) : zz_up f k v a = f a := by
  unfold zz_up
  rw [zz_bf ha]
  rfl
theorem zz_w_self (g : Nat → Nat → Int32) (k i : Nat) (v : Int32) : zz_w g k i v k = upd (g k) i v := by
  unfold zz_w
  rw [zz_bt]
  funext j
  show cond (Nat.beq j i) v (g k j) = _
  unfold upd
  by_cases h : j = i
  · subst h
    rw [zz_bt, if_pos rfl]
    rfl
  · rw [zz_bf h, if_neg h]
    rfl
theorem zz_w_other (g : Nat → Nat → Int32) {k a : Nat} (i : Nat) (v : Int32) (ha : a ≠ k) : zz_w g k i v a = g a := by
  unfold zz_w
  rw [zz_bf ha]
  rfl
def zz_ad (z b : Nat) : Nat → Nat
  | 0 => b
  | k + 1 => z + k
def zz_mv (z b : Nat) : Value → Value
  | .ref k => .ref (zz_ad z b k)
  | v => v
theorem zz_mv_cat (z b : Nat) (v : Value) : (zz_mv z b v).category = v.category := by cases v <;> rfl
theorem zz_mv_sum (z b : Nat) (l : List Value) : ((l.map (zz_mv z b)).map fun v => v.category).sum = (l.map fun v => v.category).sum := by
  rw [List.map_map]
  congr 1
  exact List.map_congr_left fun v _ => zz_mv_cat z b v
def zz_isN : Jvm.Cond → Bool
  | .methodLinkNest .. => true
  | _ => false
def zz_all : List Jvm.Cond := lw_tbl.filter goodWord
def zz_nest : List Jvm.Cond := lw_tbl.filter zz_isN
theorem zz_all_of {k : Nat} {w : Jvm.Cond} (h : zz_wd k w = true) : w ∈ zz_all := by
  unfold zz_wd at h
  rw [Bool.and_eq_true, decide_eq_true_eq] at h
  exact List.mem_filter.mpr ⟨List.mem_of_getElem? h.1, h.2⟩
theorem zz_nest_of {k i : Nat} {a d : String} {x : MethodName} (h : zz_wn k (.methodLinkNest a i x d) = true) : Jvm.Cond.methodLinkNest a i x d ∈ zz_nest := by
  unfold zz_wn at h
  rw [decide_eq_true_eq] at h
  exact List.mem_filter.mpr ⟨List.mem_of_getElem? h, rfl⟩
theorem zz_good {ws : List Jvm.Cond} (h : ∀ w ∈ ws, w ∈ zz_all) : GoodIn zz_all ws := fun w hw => ⟨h w hw, good_of_word (List.mem_filter.mp (h w hw)).2⟩
def zz_E (U : State) : Prop := (∀ w ∈ zz_nest, va_Nw w U) ∧ va_AO "UnequalHours$Town" U ∧ va_AO "UnequalHours$State" U
theorem zz_E.warm {s U : State} (hW : s.WarmedH U.vm) (h : zz_E s) : zz_E U := by
  refine ⟨fun w hw => ?_, h.2.1.moved hW.alike, h.2.2.moved hW.alike⟩
  have h1 := h.1 w hw
  have h2 := (List.mem_filter.mp hw).2
  cases w <;> first | exact va_Nw.warmM hW h1 | (exact absurd (show false = true from h2) (by decide))
theorem zz_E.same {u U : State} (e : u.vm = U.vm) (h : zz_E u) : zz_E U := by
  refine ⟨fun w hw => ?_, h.2.1.moved (e ▸ Vm.Alike.refl u.vm), h.2.2.moved (e ▸ Vm.Alike.refl u.vm)⟩
  have h1 := h.1 w hw
  have h2 := (List.mem_filter.mp hw).2
  cases w <;> first | exact va_Nw.same rfl e h1 | (exact absurd (show false = true from h2) (by decide))
def zz_tys (cA : Nat → ClassId) : List (ClassId × FieldType) := (List.range 5).map fun t => (cA t, zz_ty t)
theorem zz_tys_at (cA : Nat → ClassId) {t : Nat} (h : t < 5) : (zz_tys cA)[t]? = some (cA t, zz_ty t) := by
  simp [zz_tys, h]
def zz_fq (z b : Nat) (g : Nat → Int32) (j : Nat) : Option (Option Nat) → Value
  | none => .int (g j)
  | some q => zz_mv z b (zz_val q)
def zz_fv (z b : Nat) (g : Nat → Int32) : Nat → List (Option (Option Nat)) → List Value
  | _, [] => []
  | j, q :: r => zz_fq z b g j q :: zz_fv z b g (j + 1) r
theorem zz_fv_at (z b : Nat) (g : Nat → Int32) : ∀ (fs : List (Option (Option Nat))) (j i : Nat), (zz_fv z b g j fs)[i]? = (fs[i]?).map (zz_fq z b g (j + i))
  | [], j, i => by simp [zz_fv]
  | q :: r, j, 0 => by simp [zz_fv]
  | q :: r, j, i + 1 => by
    show (zz_fv z b g (j + 1) r)[i]? = _
    rw [zz_fv_at z b g r (j + 1) i, show j + 1 + i = j + (i + 1) by omega]
    rfl
theorem zz_fv_len (z b : Nat) (g : Nat → Int32) : ∀ (fs : List (Option (Option Nat))) (j : Nat), (zz_fv z b g j fs).length = fs.length
  | [], j => rfl
  | q :: r, j => by simp [zz_fv, zz_fv_len z b g r (j + 1)]
theorem zz_fv_seti (z b : Nat) (g : Nat → Int32) (fs : List (Option (Option Nat))) (y : Nat) (a : Int32) (h : fs[y]? = some none) : (zz_fv z b g 0 fs).set y (.int a) = zz_fv z b (fun j => if j = y then a else g j) 0 fs := by
  apply List.ext_getElem?
  intro i
  rw [List.getElem?_set, zz_fv_at, zz_fv_at, zz_fv_len]
  have hl : y < fs.length := (List.getElem?_eq_some_iff.mp h).1
  by_cases hi : y = i
  · subst hi
    rw [if_pos rfl, if_pos hl, h]
    simp [zz_fq]
  · rw [if_neg hi]
    cases fs[i]? with
    | none => rfl
    | some q => cases q <;> simp [zz_fq, Ne.symm hi]
theorem zz_fv_setr (z b : Nat) (g : Nat → Int32) (fs : List (Option (Option Nat))) (y q : Nat) (h : y < fs.length) : (zz_fv z b g 0 fs).set y (.ref (zz_ad z b q)) = zz_fv z b g 0 (fs.set y (some (some q))) := by
  apply List.ext_getElem?
  intro i
  rw [List.getElem?_set, zz_fv_at, zz_fv_at, zz_fv_len, List.getElem?_set]
  by_cases hi : y = i
  · subst hi
    simp [h, zz_fq, zz_val, zz_mv]
  · rw [if_neg hi, if_neg hi]
def zz_cell (z b : Nat) (cA : Nat → ClassId) (q : zz_L) (g : Nat → Int32) : va_E := match q with
  | .inl (t, n) => .inl (cA t, (n, .inl g))
  | .inr (.inl (t, rs)) => .inl (cA t, (rs.length, .inr (.inr (.inr (.inr (fun j => (match rs[j]? with
    | some (some k) => some (zz_ad z b k)
    | _ => none)))))))
  | .inr (.inr (c, fs)) => .inr (c, zz_fv z b g 0 fs)
def zz_ws (z b : Nat) (cA : Nat → ClassId) (h : zz_H) : va_W := (List.range h.1.1).map fun k => (z + k, zz_cell z b cA (h.2.1 (k + 1)) (h.2.2 (k + 1)))
theorem zz_ws_at {z b : Nat} {cA : Nat → ClassId} {h : zz_H} {k : Nat} (hk : k < h.1.1) : (zz_ws z b cA h)[k]? = some (z + k, zz_cell z b cA (h.2.1 (k + 1)) (h.2.2 (k + 1))) := by
  simp [zz_ws, hk]
theorem zz_ws_inv {z b : Nat} {cA : Nat → ClassId} {h : zz_H} {k : Nat} {q : Nat × va_E} (hq : (zz_ws z b cA h)[k]? = some q) : k < h.1.1 ∧ q = (z + k, zz_cell z b cA (h.2.1 (k + 1)) (h.2.2 (k + 1))) := by
  have hl : k < h.1.1 := by
    have := (List.getElem?_eq_some_iff.mp hq).1
    simpa [zz_ws] using this
  rw [zz_ws_at hl] at hq
  exact ⟨hl, (Option.some.inj hq).symm⟩
theorem zz_ws_D (z b : Nat) (cA : Nat → ClassId) (h : zz_H) : va_D (fun q => z ≤ q) (zz_ws z b cA h) := by
  refine ⟨fun i j p q hp hq e => ?_, fun k q hq => ?_⟩
  · obtain ⟨-, rfl⟩ := zz_ws_inv hp
    obtain ⟨-, rfl⟩ := zz_ws_inv hq
    have e : z + i = z + j := e
    omega
  · obtain ⟨-, rfl⟩ := zz_ws_inv hq
    exact Nat.le_add_right z k
theorem zz_ws_set {z b : Nat} {cA : Nat → ClassId} {h h' : zz_H} (k : Nat) {e : va_E} (hn : h'.1.1 = h.1.1) (he : zz_cell z b cA (h'.2.1 (k + 1)) (h'.2.2 (k + 1)) = e) (ho : ∀ j, j ≠ k + 1 → h'.2.1 j = h.2.1 j ∧ h'.2.2 j = h.2.2 j) : (zz_ws z b cA h).set k (z + k, e) = zz_ws z b cA h' := by
  apply List.ext_getElem?
  intro i
  rw [List.getElem?_set]
  by_cases hi : k = i
  · subst hi
    by_cases hk : k < h.1.1
    · rw [if_pos rfl, if_pos (by simpa [zz_ws] using hk), zz_ws_at (by rw [hn]; exact hk), he]
    · rw [if_pos rfl, if_neg (by simpa [zz_ws] using hk)]
      symm
      simp [zz_ws, hn]
      omega
  · rw [if_neg hi]
    have h1 := ho (i + 1) (by omega)
    by_cases hl : i < h.1.1
    · rw [zz_ws_at hl, zz_ws_at (by rw [hn]; exact hl), h1.1, h1.2]
    · rw [List.getElem?_eq_none (by simpa [zz_ws] using hl), List.getElem?_eq_none (by simpa [zz_ws, hn] using hl)]
