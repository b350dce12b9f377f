/-! branches, the smallest methods, the law's head -/
section ZQ
variable {X : zz_X} {m m2 pc n q : Nat} {s s' s2 : zz_S} {lv : zz_V} {st as rest : List Value} {h h' : zz_H} {e : zz_I} {v : Option Value} {φ ψ : Option Value → zz_H → Prop}
theorem zz_fin.step1 (hT : zz_T m pc = some e) (hs : zz_step X zz_us (zz_rt m) e pc lv st h = some (.inl s')) (k : zz_fin X m s' φ) : zz_fin X m (pc, lv, st, h) φ := by
  refine zz_fin.steps (n := 1) (s' := s') ?_ k
  rw [zz_walk]
  rw [show zz_Q.1 m pc = some e from hT]
  dsimp only
  rw [show zz_step X zz_us (zz_Q.2.1 m) e pc lv st h = some (.inl s') from hs]
  rfl
theorem zz_fin.ic {cn : Jvm.ClassFile.Cond} {off : Int} {x y u w : Nat} {vv : Value} {sw : List (Int × Nat)} {a d : Int32} {r : List Value} (hT : zz_T m pc = some (.if_icmp cn off, (x, y, u, w), vv, sw)) (k1 : zz_cmp cn a d = true → zz_fin X m (x, lv, r, h) φ) (k2 : ¬ zz_cmp cn a d = true → zz_fin X m (pc + 3, lv, r, h) φ) : zz_fin X m (pc, lv, .int d :: .int a :: r, h) φ := by
  by_cases hc : zz_cmp cn a d = true
  · exact zz_fin.step1 hT (by simp only [zz_step, zz_ic]; rw [if_pos hc]; rfl) (k1 hc)
  · exact zz_fin.step1 hT (by simp only [zz_step, zz_ic]; rw [if_neg hc]; rfl) (k2 hc)
theorem zz_fin.if {cn : Jvm.ClassFile.Cond} {off : Int} {x y u w : Nat} {vv : Value} {sw : List (Int × Nat)} {a : Int32} {r : List Value} (hT : zz_T m pc = some (.ifCond cn off, (x, y, u, w), vv, sw)) (k1 : zz_cond cn a = true → zz_fin X m (x, lv, r, h) φ) (k2 : ¬ zz_cond cn a = true → zz_fin X m (pc + 3, lv, r, h) φ) : zz_fin X m (pc, lv, .int a :: r, h) φ := by
  by_cases hc : zz_cond cn a = true
  · exact zz_fin.step1 hT (by simp only [zz_step, zz_if]; rw [if_pos hc]; rfl) (k1 hc)
  · exact zz_fin.step1 hT (by simp only [zz_step, zz_if]; rw [if_neg hc]; rfl) (k2 hc)
theorem zz_fin.retz {x y u w : Nat} {vv : Value} {sw : List (Int × Nat)} {a : Int32} (hT : zz_T m pc = some (.ireturn, (x, y, u, w), vv, sw)) (hrt : zz_rt m = 2) (ha : a = 0 ∨ a = 1) (k : φ (some (.int a)) h) : zz_fin X m (pc, lv, [.int a], h) φ := by
  refine ⟨1, pc, some (.int a), h, ?_, k⟩
  rw [zz_walk]
  rw [show zz_Q.1 m pc = _ from hT]
  dsimp only
  rw [show zz_Q.2.1 m = 2 from hrt]
  simp only [zz_step]
  rw [if_pos (Or.inr ⟨trivial, ha⟩)]
theorem zz_sw_all {P : Nat → Prop} : ∀ (sw : List (Int × Nat)) (d : Nat) (a : Int), (∀ q ∈ sw, P q.2) → P d → P (zz_sw sw d a)
  | [], d, a, _, hd => hd
  | (k, t) :: r, d, a, hs, hd => by
    unfold zz_sw
    split
    · exact hs (k, t) List.mem_cons_self
    · exact zz_sw_all r d a (fun q hq => hs q (List.mem_cons_of_mem _ hq)) hd
theorem zz_fin.callv {i n u w k : Nat} {vv : Value} {sw : List (Int × Nat)} (hT : zz_T m pc = some (.invokevirtual i, (m2, n, u, w), vv, sw)) (hst : st = as.reverse ++ .ref (k + 1) :: rest) (hn : as.length = n) (hob : (zz_obj h (k + 1) u).isSome = true) (h8 : (rest.map fun v => v.category).sum ≤ 8) (hf : (zz_in (.ref (k + 1) :: as) 0).length ≤ zz_nl m2)
    (kc : zz_fin X m2 (0, zz_in (.ref (k + 1) :: as) (zz_nl m2), [], h) ψ) (kk : ∀ v h', ψ v h' → zz_fin X m (pc + 3, lv, v.toList ++ rest, h') φ) : zz_fin X m (pc, lv, st, h) φ := by
  subst hst
  refine zz_fin.call hT ?_ hf kc kk
  show zz_cv m2 n u (as.reverse ++ .ref (k + 1) :: rest) h = _
  have hl : as.reverse.length = n := by rw [List.length_reverse, hn]
  have hd : (as.reverse ++ Value.ref (k + 1) :: rest).drop n = .ref (k + 1) :: rest := by rw [← hl, List.drop_left]
  have ht : (as.reverse ++ Value.ref (k + 1) :: rest).take n = as.reverse := by rw [← hl, List.take_left]
  unfold zz_cv
  rw [hd]
  dsimp only
  rw [if_pos ⟨by rw [List.length_append]; omega, hob⟩, ht, List.reverse_reverse]
  unfold zz_call
  rw [if_pos h8]
theorem zz_sw_none : ∀ (sw : List (Int × Nat)) (d : Nat) (a : Int), (∀ q ∈ sw, q.1 ≠ a) → zz_sw sw d a = d
  | [], d, a, _ => rfl
  | (k, t) :: r, d, a, hs => by
    unfold zz_sw
    rw [if_neg fun e => hs (k, t) List.mem_cons_self e.symm]
    exact zz_sw_none r d a fun q hq => hs q (List.mem_cons_of_mem _ hq)
theorem zz_fin.swd {dd lo hi : Int} {offs : Array Int} {x y u w : Nat} {vv : Value} {sw : List (Int × Nat)} {a : Int32} {r : List Value} (hT : zz_T m pc = some (.tableswitch dd lo hi offs, (x, y, u, w), vv, sw)) (hn : ∀ q ∈ sw, q.1 ≠ a.toInt) (k : zz_fin X m (x, lv, r, h) φ) : zz_fin X m (pc, lv, .int a :: r, h) φ :=
  zz_fin.step1 hT (by simp only [zz_step]; rw [zz_sw_none _ _ _ hn]; rfl) k
end ZQ
/-- the answer 1 or 0 of a test of bounds -/
def zz_wi (n lo hi : Int32) : Int32 := if lo ≤ n ∧ n ≤ hi then 1 else 0
theorem zz_wi01 (n lo hi : Int32) : zz_wi n lo hi = 0 ∨ zz_wi n lo hi = 1 := by
  unfold zz_wi
  split
  · exact Or.inr rfl
  · exact Or.inl rfl
theorem zz_within (m : Nat) (hm : m = 14 ∨ m = 154) (n lo hi : Int32) (h : zz_H) : zz_fin none m (0, zz_in [.int n, .int lo, .int hi] (zz_nl m), [], h) (fun v h' => v = some (.int (zz_wi n lo hi)) ∧ h' = h) := by
  have e0 : ¬ lo ≤ n → zz_wi n lo hi = 0 := fun q => if_neg fun z => q z.1
  have e1 : ¬ n ≤ hi → zz_wi n lo hi = 0 := fun q => if_neg fun z => q z.2
  have e2 : lo ≤ n → n ≤ hi → zz_wi n lo hi = 1 := fun q r => if_pos ⟨q, r⟩
  rcases hm with rfl | rfl
  · refine zz_fin.steps (n := 2) (s' := (2, [some (.int n), some (.int lo), some (.int hi)], [.int lo, .int n], h)) rfl ?_
    refine zz_fin.ic rfl (fun c => ?_) (fun c => ?_)
    · rw [e0 (Int32.not_le.mpr (of_decide_eq_true c))]
      exact zz_fin.at (n := 2) rfl ⟨rfl, rfl⟩
    · have c1 : lo ≤ n := Int32.not_lt.mp fun q => c (decide_eq_true q)
      refine zz_fin.steps (n := 2) (s' := (7, [some (.int n), some (.int lo), some (.int hi)], [.int hi, .int n], h)) rfl ?_
      refine zz_fin.ic rfl (fun c => ?_) (fun c => ?_)
      · rw [e1 (Int32.not_le.mpr (of_decide_eq_true c))]
        exact zz_fin.at (n := 2) rfl ⟨rfl, rfl⟩
      · rw [e2 c1 (Int32.not_lt.mp fun q => c (decide_eq_true q))]
        exact zz_fin.at (n := 3) rfl ⟨rfl, rfl⟩
  · refine zz_fin.steps (n := 2) (s' := (2, [some (.int n), some (.int lo), some (.int hi)], [.int lo, .int n], h)) rfl ?_
    refine zz_fin.ic rfl (fun c => ?_) (fun c => ?_)
    · rw [e0 (Int32.not_le.mpr (of_decide_eq_true c))]
      exact zz_fin.at (n := 2) rfl ⟨rfl, rfl⟩
    · have c1 : lo ≤ n := Int32.not_lt.mp fun q => c (decide_eq_true q)
      refine zz_fin.steps (n := 2) (s' := (7, [some (.int n), some (.int lo), some (.int hi)], [.int hi, .int n], h)) rfl ?_
      refine zz_fin.ic rfl (fun c => ?_) (fun c => ?_)
      · rw [e1 (Int32.not_le.mpr (of_decide_eq_true c))]
        exact zz_fin.at (n := 2) rfl ⟨rfl, rfl⟩
      · rw [e2 c1 (Int32.not_lt.mp fun q => c (decide_eq_true q))]
        exact zz_fin.at (n := 3) rfl ⟨rfl, rfl⟩
theorem zz_within1 {m : Nat} (hm : m = 14 ∨ m = 154) {n lo hi : Int32} {h : zz_H} (c : lo ≤ n ∧ n ≤ hi) : zz_fin none m (0, zz_in [.int n, .int lo, .int hi] (zz_nl m), [], h) (fun v h' => v = some (.int 1) ∧ h' = h) := by
  have := zz_within m hm n lo hi h
  rwa [show zz_wi n lo hi = 1 from if_pos c] at this
theorem zz_within0 {m : Nat} (hm : m = 14 ∨ m = 154) {n lo hi : Int32} {h : zz_H} (c : ¬ (lo ≤ n ∧ n ≤ hi)) : zz_fin none m (0, zz_in [.int n, .int lo, .int hi] (zz_nl m), [], h) (fun v h' => v = some (.int 0) ∧ h' = h) := by
  have := zz_within m hm n lo hi h
  rwa [show zz_wi n lo hi = 0 from if_neg c] at this
theorem zz_no {n : Int32} : ¬ ((0 : Int32) ≤ n ∧ n ≤ -1) := fun ⟨a, b⟩ => by
  have a := Int32.le_iff_toInt_le.mp a
  have b := Int32.le_iff_toInt_le.mp b
  have e1 : (0 : Int32).toInt = 0 := by decide
  have e2 : (-1 : Int32).toInt = -1 := by decide
  omega
theorem zz_hs_Zr : zz_Zr zz_hs := by
  intro k hk
  have hk : 553 < k := hk
  funext j
  refine zz_lk_none zz_gl k j fun q => ?_
  have h1 : ∀ q ∈ zz_gl.map (fun q => (q.1, q.2.1)), q.1 ≤ 553 := by decide +kernel
  have := h1 _ q
  have : k ≤ 553 := this
  omega
