/-! TEXTS: rows of bytes, new or old; a text; a text that is being built -/
/-- bytes that are figures, letters, signs -/
def yA (l : List Int32) : Prop := ∀ x ∈ l, 0 ≤ x.toInt ∧ x.toInt ≤ 127
/-- a row of bytes, new or old -/
def yV (h : zz_H) (v : Nat) (l : List Int32) : Prop := (yY h v l.length ∧ ∀ j x, l[j]? = some x → h.2.2 v j = x) ∨ (yy_B ≤ v ∧ yy_O.2 (v - yy_B) = some l)
/-- a text, and its row -/
def yT (h : zz_H) (k v : Nat) (l : List Int32) : Prop := yV h v l ∧ yA l ∧ l.length < 100000 ∧ ((yO h k 14 [some (some v), none, none, none] ∧ h.2.2 k 1 = 0) ∨ (yy_B ≤ k ∧ k - yy_B < yy_O.1 ∧ v = k + 100))
def yS (h : zz_H) (k : Nat) (l : List Int32) : Prop := ∃ v, yT h k v l
/-- a new row of bytes, all of it -/
def yW (h : zz_H) (v : Nat) (w : List Int32) : Prop := yY h v w.length ∧ ∀ j x, w[j]? = some x → h.2.2 v j = x
/-- a text that is being built: behind z -/
def yB (h : zz_H) (z k : Nat) (l : List Int32) : Prop := ∃ v l2, (z < k ∧ z < v ∧ v ≠ k) ∧ yO h k 13 [some (some v), none, none, none] ∧ h.2.2 k 1 = 0 ∧ h.2.2 k 3 = Int32.ofNat l.length ∧ yW h v (l ++ l2) ∧ yA (l ++ l2) ∧ (l ++ l2).length ≤ 50000
theorem yW.v {h : zz_H} {v : Nat} {w : List Int32} (o : yW h v w) : yV h v w := Or.inl o
theorem yW.le {h : zz_H} {v : Nat} {w : List Int32} (o : yW h v w) : v ≤ h.1.1 := o.1.le
theorem yW.x {A : Nat → Prop} {a d v : Nat} {h h' : zz_H} {w : List Int32} (o : yW h v w) (x : yx A a d h h') (hA : ¬ A v) : yW h' v w := ⟨o.1.x x hA, fun j q e => (o.1.i x hA j).trans (o.2 j q e)⟩
/-- a builder's cells lie behind z: what lies before changes without it -/
theorem yB.x {A : Nat → Prop} {a d z k : Nat} {h h' : zz_H} {l : List Int32} (o : yB h z k l) (x : yx A a d h h') (hA : ∀ q, z < q → ¬ A q) : yB h' z k l := by
  obtain ⟨v, l2, ⟨z1, z2, z3⟩, o1, o2, o3, o4, o5, o6⟩ := o
  exact ⟨v, l2, ⟨z1, z2, z3⟩, o1.x x (hA _ z1), (o1.i x (hA _ z1) 1).trans o2, (o1.i x (hA _ z1) 3).trans o3, o4.x x (hA _ z2), o5, o6⟩
theorem yA_app {l m : List Int32} (h1 : yA l) (h2 : yA m) : yA (l ++ m) := fun x hx => (List.mem_append.mp hx).elim (h1 x) (h2 x)
theorem yA_l {l m : List Int32} (h : yA (l ++ m)) : yA l := fun x hx => h x (List.mem_append_left _ hx)
theorem yA_r {l m : List Int32} (h : yA (l ++ m)) : yA m := fun x hx => h x (List.mem_append_right _ hx)
theorem yA_drop {l : List Int32} (n : Nat) (h : yA l) : yA (l.drop n) := fun x hx => h x (List.mem_of_mem_drop hx)
theorem yA_take {l : List Int32} (n : Nat) (h : yA l) : yA (l.take n) := fun x hx => h x (List.mem_of_mem_take hx)
theorem yA_rep (n : Nat) : yA (List.replicate n 0) := fun x hx => by
  rw [List.eq_of_mem_replicate hx]
  decide
section YS1
variable {A : Nat → Prop} {a d k v n : Nat} {h h' : zz_H} {l : List Int32}
theorem yV.x (o : yV h v l) (x : yx A a d h h') (hA : v ≤ h.1.1 → ¬ A v) : yV h' v l := by
  rcases o with ⟨o1, o2⟩ | o
  · exact Or.inl ⟨o1.x x (hA o1.le), fun j q e => (o1.i x (hA o1.le) j).trans (o2 j q e)⟩
  · exact Or.inr o
theorem yT.x (o : yT h k v l) (x : yx yF a d h h') : yT h' k v l := by
  obtain ⟨o1, o2, o3, o4⟩ := o
  refine ⟨o1.x x fun _ => id, o2, o3, ?_⟩
  rcases o4 with ⟨p1, p2⟩ | p
  · exact Or.inl ⟨p1.x x id, (p1.i x id 1).trans p2⟩
  · exact Or.inr p
theorem yS.x (o : yS h k l) (x : yx yF a d h h') : yS h' k l := by
  obtain ⟨v, o⟩ := o
  exact ⟨v, o.x x⟩
/-- where only cells behind z, or of few others, change -/
theorem yT.z (o : yT h k v l) (x : yx A a d h h') (hk : k ≤ h.1.1 → ¬ A k) (hv : v ≤ h.1.1 → ¬ A v) : yT h' k v l := by
  obtain ⟨o1, o2, o3, o4⟩ := o
  refine ⟨o1.x x hv, o2, o3, ?_⟩
  rcases o4 with ⟨p1, p2⟩ | p
  · exact Or.inl ⟨p1.x x (hk p1.le), (p1.i x (hk p1.le) 1).trans p2⟩
  · exact Or.inr p
theorem yV.lt (o : yV h v l) (hB : h.1.1 < yy_B) : v < yy_B → v ≤ h.1.1 := fun hv => by
  rcases o with ⟨o1, -⟩ | o
  · exact o1.le
  · omega
theorem yV.ne0 (o : yV h v l) : v ≠ 0 := by
  rcases o with ⟨o1, -⟩ | o
  · exact o1.1
  · have : yy_B = 1000000 := rfl
    omega
end YS1
theorem zz_arr_no {h : zz_H} {k t u n : Nat} (o : zz_arr h k t = some n) (hne : t ≠ u) : zz_arr h k u = none := by
  obtain ⟨h1, h2⟩ := zz_arr_ok o
  unfold zz_arr zz_lay
  rw [if_pos h1, h2]
  exact if_neg hne
section YS2
variable {X : yy_X} {m m2 pc : Nat} {lv : zz_V} {st as rest r : List Value} {h h' : zz_H} {φ ψ : Option Value → zz_H → Prop} {x y u w : Nat} {vv : Value} {sw : List (Int × Nat)} {k v c n t : Nat} {l : List Int32}
theorem zz_lay_none {k : Nat} (hk : h.1.1 < k) : zz_lay h k = none := if_neg (Nat.not_le.mpr hk)
theorem yy_fin.vl (hT : zz_T m pc = some (.arraylength, (x, y, u, w), vv, sw)) (o : yV h v l) (hB : h.1.1 < yy_B) (kk : yy_fin X m (pc + 1, lv, .int (Int32.ofNat l.length) :: r, h) φ) : yy_fin X m (pc, lv, .ref v :: r, h) φ := by
  rcases o with ⟨o1, -⟩ | ⟨o1, o2⟩
  · exact yy_fin.lb hT o1 kk
  · have e0 : yy_B = 1000000 := rfl
    obtain ⟨q, rfl⟩ : ∃ q, v = q + 1 := Nat.exists_eq_succ_of_ne_zero (show v ≠ 0 by omega)
    refine yy_fin.step1 hT (yy_ofN ?_ ?_) kk
    · show zz_len X.1 pc lv (.ref (q + 1) :: r) h = none
      unfold zz_len
      dsimp only
      rw [zz_lay_none (by omega)]
    · rw [yy_more_len, yy_len_old o1 o2]
      rfl
theorem yy_fin.vb {i a : Int32} {j : Nat} (hT : zz_T m pc = some (.baload, (x, y, u, w), vv, sw)) (o : yV h v l) (hB : h.1.1 < yy_B) (hi : zz_inb i l.length = true) (hj : i.toNatClampNeg = j) (e : l[j]? = some a) (kk : yy_fin X m (pc + 1, lv, .int a :: r, h) φ) : yy_fin X m (pc, lv, .int i :: .ref v :: r, h) φ := by
  subst hj
  rcases o with ⟨o1, o2⟩ | ⟨o1, o2⟩
  · obtain ⟨q, rfl⟩ : ∃ q, v = q + 1 := Nat.exists_eq_succ_of_ne_zero o1.1
    have h1 : zz_arr h (q + 1) 1 = none := zz_arr_no o1.2.2 (by decide)
    refine yy_fin.step1 hT (yy_ofS ?_) kk
    show zz_bal pc lv (.int i :: .ref (q + 1) :: r) h = _
    unfold zz_bal
    dsimp only
    rw [h1, o1.2.2]
    dsimp only
    rw [if_pos hi, o2 _ _ e]
    rfl
  · have e0 : yy_B = 1000000 := rfl
    obtain ⟨q, rfl⟩ : ∃ q, v = q + 1 := Nat.exists_eq_succ_of_ne_zero (show v ≠ 0 by omega)
    refine yy_fin.step1 hT (yy_ofN ?_ ?_) kk
    · show zz_bal pc lv (.int i :: .ref (q + 1) :: r) h = none
      unfold zz_bal zz_arr
      dsimp only
      rw [zz_lay_none (by omega)]
    · rw [yy_more_bal, yy_bal_old o1 o2 hi]
      rw [List.getD_eq_getElem?_getD, e]
      rfl
/-- a byte into a new row -/
theorem yy_fin.sb {i a : Int32} {j : Nat} (hT : zz_T m pc = some (.bastore, (x, y, u, w), vv, sw)) (o : yY h k n) (hi : zz_inb i n = true) (hj : i.toNatClampNeg = j) (ha : vp_nar .byte a = a) (kk : ∀ h', yx (fun q => q = k) 0 0 h h' → yY h' k n → h'.2.2 k j = a → (∀ q, q ≠ j → h'.2.2 k q = h.2.2 k q) → yy_fin X m (pc + 1, lv, r, h') φ) : yy_fin X m (pc, lv, .int a :: .int i :: .ref k :: r, h) φ := by
  subst hj
  obtain ⟨q, rfl⟩ : ∃ q, k = q + 1 := Nat.exists_eq_succ_of_ne_zero o.1
  have h1 : zz_arr h (q + 1) 1 = none := zz_arr_no o.2.2 (by decide)
  refine yy_fin.step1 hT (yy_ofS ?_) (kk (h.1, (h.2.1, zz_w h.2.2 (q + 1) i.toNatClampNeg a)) (yx_w o.le) o (yy_w_at _ _ _ _) fun j hj => yy_w_ne _ _ _ _ hj)
  show zz_bas pc lv (.int a :: .int i :: .ref (q + 1) :: r) h = _
  unfold zz_bas
  dsimp only
  rw [h1, o.2.2]
  dsimp only
  rw [if_pos hi, ha]
  rfl
theorem yy_fin.tv {i : Nat} (hT : zz_T m pc = some (.getfield i, (14, 0, u, w), vv, sw)) (o : yT h k v l) (hB : h.1.1 < yy_B) (kk : yy_fin X m (pc + 3, lv, .ref v :: r, h) φ) : yy_fin X m (pc, lv, .ref k :: r, h) φ := by
  obtain ⟨-, -, -, ⟨p1, -⟩ | ⟨p1, p2, rfl⟩⟩ := o
  · exact yy_fin.fr hT p1 rfl kk
  · refine yy_fin.step1 hT (yy_ofN ?_ ?_) kk
    · show zz_get 14 0 pc lv (.ref k :: r) h = none
      unfold zz_get
      dsimp only
      cases k with
      | zero => rfl
      | succ k =>
        dsimp only
        unfold zz_obj
        rw [zz_lay_none (by omega)]
    · rw [yy_more_get, yy_get_old0 p1 p2]
      rfl
theorem yy_fin.tc {i : Nat} (hT : zz_T m pc = some (.getfield i, (14, 1, u, w), vv, sw)) (o : yT h k v l) (hB : h.1.1 < yy_B) (kk : yy_fin X m (pc + 3, lv, .int 0 :: r, h) φ) : yy_fin X m (pc, lv, .ref k :: r, h) φ := by
  obtain ⟨-, -, -, ⟨p1, p2⟩ | ⟨p1, p2, rfl⟩⟩ := o
  · exact yy_fin.fi hT p1 rfl p2 kk
  · refine yy_fin.step1 hT (yy_ofN ?_ ?_) kk
    · show zz_get 14 1 pc lv (.ref k :: r) h = none
      unfold zz_get
      dsimp only
      cases k with
      | zero => rfl
      | succ k =>
        dsimp only
        unfold zz_obj
        rw [zz_lay_none (by omega)]
    · rw [yy_more_get, yy_get_old1 p1 p2]
      rfl
/-- a call on a text -/
theorem yy_fin.ct {i n : Nat} (hT : zz_T m pc = some (.invokevirtual i, (m2, n, 14, w), vv, sw)) (hm : ¬ 100005 ≤ m2) (hst : st = as.reverse ++ .ref k :: rest) (hn : as.length = n) (o : yT h k v l) (hB : h.1.1 < yy_B) (h8 : (rest.map fun v => v.category).sum ≤ 8) (hf : (zz_in (.ref k :: as) 0).length ≤ zz_nl m2)
    (kc : yy_fin X m2 (0, zz_in (.ref k :: as) (zz_nl m2), [], h) ψ) (kk : ∀ v h', ψ v h' → yy_fin X m (pc + 3, lv, v.toList ++ rest, h') φ) : yy_fin X m (pc, lv, st, h) φ := by
  obtain ⟨-, -, -, ⟨p1, -⟩ | ⟨p1, p2, -⟩⟩ := o
  · exact yy_fin.cv hT hst hn p1 h8 hf kc kk
  · exact yy_fin.co hT hst hn p1 p2 hB hm h8 hf kc kk
/-- bytes copied into a new row -/
theorem yy_fin.vc {i0 : Nat} {n0 sp dp : Int32} {na s d cnt : Nat} (hT : zz_T m pc = some (.invokestatic i0, (100001, y, u, w), vv, sw)) (o : yV h v l) (hB : h.1.1 < yy_B) (q : yY h k na) (hs : sp.toNatClampNeg = s ∧ ¬ sp < 0) (hd : dp.toNatClampNeg = d ∧ ¬ dp < 0) (hc : n0.toNatClampNeg = cnt ∧ ¬ n0 < 0) (h1 : s + cnt ≤ l.length) (h2 : d + cnt ≤ na) (h8 : (r.map fun v => v.category).sum ≤ 8) (hA : yA l)
    (kk : ∀ h', yx (fun q => q = k) 0 0 h h' → yY h' k na → (∀ j, h'.2.2 k j = if d ≤ j ∧ j < d + cnt then (l.getD (s + (j - d)) 0) else h.2.2 k j) → yy_fin X m (pc + 3, lv, r, h') φ) : yy_fin X m (pc, lv, .int n0 :: .int dp :: .ref k :: .int sp :: .ref v :: r, h) φ := by
  obtain ⟨rfl, hs2⟩ := hs
  obtain ⟨rfl, hd2⟩ := hd
  obtain ⟨rfl, hc2⟩ := hc
  have hsrc : ∃ f, yy_src yy_O h v = some (l.length, f) ∧ ∀ j, j < l.length → f j = l.getD j 0 := by
    rcases o with ⟨o1, o2⟩ | ⟨o1, o2⟩
    · refine ⟨h.2.2 v, yy_src_new o1.2.1 o1.1 o1.2.2, fun j hj => ?_⟩
      · rw [o2 j _ (List.getElem?_eq_getElem hj), List.getD_eq_getElem?_getD, List.getElem?_eq_getElem hj]
        rfl
    · exact ⟨fun j => l.getD j 0, yy_src_old o1 o2, fun j hj => rfl⟩
  obtain ⟨f, hf, hfe⟩ := hsrc
  obtain ⟨qv, rfl⟩ : ∃ q, v = q + 1 := Nat.exists_eq_succ_of_ne_zero o.ne0
  obtain ⟨qk, rfl⟩ : ∃ q, k = q + 1 := Nat.exists_eq_succ_of_ne_zero q.1
  have h0 : zz_arr h (qk + 1) 0 = none := zz_arr_no q.2.2 (by decide)
  have hfit : (List.range n0.toNatClampNeg).all (fun i => yy_fb (f (sp.toNatClampNeg + i))) = true := by
    refine List.all_eq_true.mpr fun i hi => ?_
    have hi := List.mem_range.mp hi
    rw [hfe _ (by omega)]
    refine decide_eq_true ?_
    have hm : l.getD (sp.toNatClampNeg + i) 0 ∈ l := by
      rw [List.getD_eq_getElem?_getD, List.getElem?_eq_getElem (show sp.toNatClampNeg + i < l.length by omega)]
      exact List.getElem_mem _
    have hb := hA _ hm
    refine ⟨Int32.le_iff_toInt_le.mpr ?_, Int32.le_iff_toInt_le.mpr ?_⟩
    · rw [show (-128 : Int32).toInt = -128 from rfl]
      omega
    · rw [show (127 : Int32).toInt = 127 from rfl]
      omega
  refine yy_fin.step1 hT (yy_ofN ?_ ?_) (kk (h.1, (h.2.1, zz_up h.2.2 (qk + 1) (va_cpy f (h.2.2 (qk + 1)) sp.toNatClampNeg dp.toNatClampNeg n0.toNatClampNeg))) (yx_c q.le) q fun j => ?_)
  · simp only [zz_step]
    rw [if_pos trivial]
    unfold zz_cpy
    dsimp only
    rw [h0]
    exact (if_neg (by decide)).trans rfl
  · simp only [yy_more]
    rw [if_pos trivial]
    exact (yy_cpy_did q.2.2 hf ⟨hs2, hd2, hc2, h1, h2, h8, hfit⟩).trans rfl
  · show zz_up h.2.2 (qk + 1) _ (qk + 1) j = _
    rw [zz_up_self]
    unfold va_cpy
    by_cases c : dp.toNatClampNeg ≤ j ∧ j < dp.toNatClampNeg + n0.toNatClampNeg
    · rw [if_pos c, if_pos c, hfe _ (by omega)]
    · rw [if_neg c, if_neg c]
theorem yy_fin.nw {i : Int32} {t : ArrayType} (hT : zz_T m pc = some (.newarray t, (2, y, u, w), vv, sw)) (hn : ¬ i < 0) (hj : i.toNatClampNeg = n) (hn2 : n ≤ 100000) (hB : h.1.1 + 1 < yy_B) (hz : zz_Zr h) (kk : ∀ h', yx yF 1 n h h' → h'.1.1 = h.1.1 + 1 → yW h' (h.1.1 + 1) (List.replicate n 0) → yy_fin X m (pc + 2, lv, .ref (h.1.1 + 1) :: r, h') φ) : yy_fin X m (pc, lv, .int i :: r, h) φ :=
  yy_fin.nb hT hn hj hn2 hB hz fun h' x e o z => kk h' x e ⟨by rw [List.length_replicate]; exact o, fun j q eq => by
    rw [List.getElem?_replicate] at eq
    split at eq
    · cases eq
      exact z j
    · cases eq⟩
theorem yy_nbA {a : Int32} (ha : 0 ≤ a.toInt ∧ a.toInt ≤ 127) : vp_nar .byte a = a := by
  have h3 : a.toInt8.toInt32 = a := by
    apply Int32.toInt_inj.mp
    rw [Int8.toInt_toInt32, Int32.toInt_toInt8, Int.bmod_def]
    split <;> omega
  exact h3
theorem yy_fin.swb {i a : Int32} {j : Nat} {l : List Int32} (hT : zz_T m pc = some (.bastore, (x, y, u, w), vv, sw)) (o : yW h k l) (hi : zz_inb i l.length = true) (hj : i.toNatClampNeg = j) (ha : 0 ≤ a.toInt ∧ a.toInt ≤ 127) (kk : ∀ h', yx (fun q => q = k) 0 0 h h' → yW h' k (l.set j a) → yy_fin X m (pc + 1, lv, r, h') φ) : yy_fin X m (pc, lv, .int a :: .int i :: .ref k :: r, h) φ :=
  yy_fin.sb hT o.1 hi hj (yy_nbA ha) fun h' x o' e1 e2 => kk h' x ⟨by rw [List.length_set]; exact o', fun q b eq => by
    rw [List.getElem?_set] at eq
    by_cases hq : j = q
    · subst hq
      rw [if_pos rfl] at eq
      split at eq
      · cases eq
        exact e1
      · cases eq
    · rw [if_neg hq] at eq
      rw [e2 q (Ne.symm hq)]
      exact o.2 q b eq⟩
theorem yy_fin.cw {i0 : Nat} {n0 sp dp : Int32} {s d cnt : Nat} {q : List Int32} (hT : zz_T m pc = some (.invokestatic i0, (100001, y, u, w), vv, sw)) (o : yV h v l) (hB : h.1.1 < yy_B) (p : yW h k q) (hs : sp.toNatClampNeg = s ∧ ¬ sp < 0) (hd : dp.toNatClampNeg = d ∧ ¬ dp < 0) (hc : n0.toNatClampNeg = cnt ∧ ¬ n0 < 0) (h1 : s + cnt ≤ l.length) (h2 : d + cnt ≤ q.length) (h8 : (r.map fun v => v.category).sum ≤ 8) (hA : yA l)
    (kk : ∀ h', yx (fun q => q = k) 0 0 h h' → yW h' k (q.take d ++ ((l.drop s).take cnt ++ q.drop (d + cnt))) → yy_fin X m (pc + 3, lv, r, h') φ) : yy_fin X m (pc, lv, .int n0 :: .int dp :: .ref k :: .int sp :: .ref v :: r, h) φ := by
  have hlen : (q.take d ++ ((l.drop s).take cnt ++ q.drop (d + cnt))).length = q.length := by
    simp only [List.length_append, List.length_take, List.length_drop]
    omega
  refine yy_fin.vc hT o hB p.1 hs hd hc h1 h2 h8 hA fun h' x p' e => kk h' x ⟨by rw [hlen]; exact p', fun j b eq => ?_⟩
  rw [e j]
  have hj : j < q.length := by
    rw [← hlen]
    exact (List.getElem?_eq_some_iff.mp eq).1
  by_cases c1 : j < d
  · rw [if_neg (by omega)]
    rw [List.getElem?_append_left (by rw [List.length_take]; omega), List.getElem?_take_of_lt c1] at eq
    exact p.2 j b eq
  · rw [List.getElem?_append_right (by rw [List.length_take]; omega), List.length_take, Nat.min_eq_left (by omega)] at eq
    by_cases c2 : j < d + cnt
    · rw [if_pos ⟨by omega, c2⟩]
      rw [List.getElem?_append_left (by rw [List.length_take, List.length_drop]; omega), List.getElem?_take_of_lt (by omega), List.getElem?_drop] at eq
      rw [List.getD_eq_getElem?_getD, eq]
      rfl
    · rw [if_neg (by omega)]
      rw [List.getElem?_append_right (by rw [List.length_take, List.length_drop]; omega), List.length_take, List.length_drop, Nat.min_eq_left (by omega), List.getElem?_drop, show d + cnt + (j - d - cnt) = j by omega] at eq
      exact p.2 j b eq
end YS2
