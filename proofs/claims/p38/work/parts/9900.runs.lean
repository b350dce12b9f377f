/-! RUNS READ BACKWARDS: what a run that comes to an end has done -/
def rn_s (n m : Nat) (s : zz_S) (v : Option Value) (h : zz_H) : Prop := ∃ q, zz_walk zz_Q zz_us none n m s = some (.inr (q, v, h))
/-- a local that nobody reads any more (no long) -/
def rn_jk (x : Option Value) : Prop := ∀ v, x = some v → v.category ≠ 2
theorem rn_jn : rn_jk none := fun v h => by cases h
theorem rn_ji {a : Int32} : rn_jk (some (.int a)) := fun v h => by cases h; exact (by decide : (1 : Nat) ≠ 2)
theorem rn_jr {a : Nat} : rn_jk (some (.ref a)) := fun v h => by cases h; exact (by decide : (1 : Nat) ≠ 2)
theorem rn_jl : rn_jk (some .null) := fun v h => by cases h; exact (by decide : (1 : Nat) ≠ 2)
section RN
variable {m m2 pc n q k : Nat} {s s' : zz_S} {lv : zz_V} {st as rest : List Value} {h h' h0 : zz_H} {g : aa_G} {e : zz_I} {v v' : Option Value} {φ ψ : Option Value → zz_H → Prop}
theorem rn_more (k : Nat) (w : zz_walk zz_Q zz_us none n m s = some (.inr (q, v, h))) : zz_walk zz_Q zz_us none (n + k) m s = some (.inr (q, v, h)) := by
  rw [zz_walk_add n m s _ w k]
  rfl
theorem rn_det {n' : Nat} (r : rn_s n m s v h) (r' : rn_s n' m s v' h') : v = v' ∧ h = h' := by
  obtain ⟨q, w⟩ := r
  obtain ⟨q', w'⟩ := r'
  have e1 := rn_more n' w
  have e2 := rn_more n w'
  rw [Nat.add_comm n' n, e1] at e2
  have e3 := Option.some.inj e2
  have e4 := Sum.inr.inj e3
  exact ⟨congrArg (fun x => x.2.1) e4, congrArg (fun x => x.2.2) e4⟩
theorem rn_fin (f : zz_fin none m s φ) (r : rn_s n m s v h) : φ v h := by
  obtain ⟨n', q, v', h', w, p⟩ := f
  obtain ⟨e1, e2⟩ := rn_det r ⟨q, w⟩
  rw [e1, e2]
  exact p
theorem rn_also (f : zz_fin none m s φ) (k : ∀ n v h, rn_s n m s v h → φ v h → ψ v h) : zz_fin none m s ψ := by
  obtain ⟨n', q, v', h', w, p⟩ := f
  exact ⟨n', q, v', h', w, k n' v' h' ⟨q, w⟩ p⟩
theorem rn_of (f : zz_fin none m s φ) : ∃ n v h, rn_s n m s v h ∧ φ v h := by
  obtain ⟨n', q, v', h', w, p⟩ := f
  exact ⟨n', v', h', ⟨q, w⟩, p⟩
theorem rn_steps (k : Nat) (s' : zz_S) (w : zz_walk zz_Q zz_us none (k + 1) m s = some (.inl s')) (r : rn_s n m s v h) : ∃ n', n' < n ∧ rn_s n' m s' v h := by
  obtain ⟨q, r⟩ := r
  by_cases hk : k + 1 ≤ n
  · refine ⟨n - (k + 1), by omega, q, ?_⟩
    have e := zz_walk_add (k + 1) m s _ w (n - (k + 1))
    rw [show k + 1 + (n - (k + 1)) = n by omega, r] at e
    exact e.symm
  · have e := rn_more (k + 1 - n) r
    rw [show n + (k + 1 - n) = k + 1 by omega, w] at e
    cases e
theorem rn_ret (k : Nat) (w : zz_walk zz_Q zz_us none k m s = some (.inr (q, v', h'))) (r : rn_s n m s v h) : v = v' ∧ h = h' := rn_det r ⟨q, w⟩
theorem rn_one (hT : zz_T m pc = some e) (hs : zz_step none zz_us (zz_rt m) e pc lv st h0 = some (.inl s')) (r : rn_s n m (pc, lv, st, h0) v h) : ∃ n', n' < n ∧ rn_s n' m s' v h := by
  refine rn_steps 0 s' ?_ r
  rw [zz_walk]
  rw [show zz_Q.1 m pc = some e from hT]
  dsimp only
  rw [show zz_step none zz_us (zz_Q.2.1 m) e pc lv st h0 = some (.inl s') from hs]
  rfl
theorem rn_no (hT : zz_T m pc = some e) (hs : zz_step none zz_us (zz_rt m) e pc lv st h0 = none) (r : rn_s n m (pc, lv, st, h0) v h) : False := by
  obtain ⟨q, r⟩ := r
  cases n with
  | zero => cases r
  | succ n =>
    rw [zz_walk] at r
    rw [show zz_Q.1 m pc = some e from hT] at r
    dsimp only at r
    rw [show zz_step none zz_us (zz_Q.2.1 m) e pc lv st h0 = none from hs] at r
    cases r
theorem rn_call (hT : zz_T m pc = some e) (hs : zz_step none zz_us (zz_rt m) e pc lv st h0 = some (.inr (.inr (m2, as, rest)))) (r : rn_s n m (pc, lv, st, h0) v h) : ∃ n1 n2 v1 h1, n1 < n ∧ n2 < n ∧ rn_s n1 m2 (0, zz_in as (zz_nl m2), [], h0) v1 h1 ∧ rn_s n2 m (pc + 3, lv, v1.toList ++ rest, h1) v h := by
  obtain ⟨q, r⟩ := r
  cases n with
  | zero => cases r
  | succ n =>
    rw [zz_walk] at r
    rw [show zz_Q.1 m pc = some e from hT] at r
    dsimp only at r
    rw [show zz_step none zz_us (zz_Q.2.1 m) e pc lv st h0 = some (.inr (.inr (m2, as, rest))) from hs] at r
    dsimp only at r
    split at r
    · cases hw : zz_walk zz_Q zz_us none n m2 (0, zz_in as (zz_Q.2.2 m2), [], h0) with
      | none => rw [hw] at r; cases r
      | some o =>
        rw [hw] at r
        cases o with
        | inl _ => cases r
        | inr o =>
          obtain ⟨q1, v1, h1⟩ := o
          exact ⟨n, n, v1, h1, Nat.lt_succ_self n, Nat.lt_succ_self n, ⟨q1, hw⟩, ⟨q, r⟩⟩
    · cases r
/-- a call of a method of an object -/
theorem rn_cv {i a ci w : Nat} {vv : Value} {sw : List (Int × Nat)} {fs : List (Option (Option Nat))} (hT : zz_T m pc = some (.invokevirtual i, (m2, a, ci, w), vv, sw)) (hk : k ≠ 0 ∧ k ≤ 553) (hl : zz_ly k = .inr (.inr (ci, fs))) (hst : st = as.reverse ++ .ref k :: rest) (hn : as.length = a) (r : rn_s n m (pc, lv, st, aa_H g) v h) : ∃ n1 n2 v1 h1, n1 < n ∧ n2 < n ∧ rn_s n1 m2 (0, zz_in (.ref k :: as) (zz_nl m2), [], aa_H g) v1 h1 ∧ rn_s n2 m (pc + 3, lv, v1.toList ++ rest, h1) v h := by
  subst hst
  have hl2 : as.reverse.length = a := by rw [List.length_reverse, hn]
  have hd : (as.reverse ++ Value.ref k :: rest).drop a = .ref k :: rest := by rw [← hl2, List.drop_left]
  have ht : (as.reverse ++ Value.ref k :: rest).take a = as.reverse := by rw [← hl2, List.take_left]
  have hob : (zz_obj (aa_H g) k ci).isSome = true := by
    have e : zz_lay (aa_H g) k = some (zz_ly k) := if_pos hk.2
    unfold zz_obj
    rw [e, hl]
    dsimp only
    rw [if_pos rfl]
    rfl
  obtain ⟨k, rfl⟩ := Nat.exists_eq_succ_of_ne_zero hk.1
  have hstep : zz_cv m2 a ci (as.reverse ++ .ref (k + 1) :: rest) (aa_H g) = zz_call m2 (.ref (k + 1) :: as) rest := by
    unfold zz_cv
    rw [hd]
    dsimp only
    rw [if_pos ⟨by rw [List.length_append]; omega, hob⟩, ht, List.reverse_reverse]
  by_cases h8 : (rest.map fun v => v.category).sum ≤ 8
  · refine rn_call hT ?_ r
    show zz_cv m2 a ci (as.reverse ++ .ref (k + 1) :: rest) (aa_H g) = _
    rw [hstep]
    unfold zz_call
    rw [if_pos h8]
  · refine absurd (rn_no hT ?_ r) (fun z => z)
    show zz_cv m2 a ci (as.reverse ++ .ref (k + 1) :: rest) (aa_H g) = _
    rw [hstep]
    unfold zz_call
    rw [if_neg h8]
theorem rn_ic {α : Type} (P : α → Prop) {c : Prop} {ic : Decidable c} {E1 E2 : α} {cn : Jvm.ClassFile.Cond} {off : Int} {x y u w : Nat} {vv : Value} {sw : List (Int × Nat)} {a d : Int32} (hT : zz_T m pc = some (.if_icmp cn off, (x, y, u, w), vv, sw)) (hc : c ↔ zz_cmp cn a d = true) (r : rn_s n m (pc, lv, .int d :: .int a :: st, h0) v h)
    (k1 : c → ∀ n', n' < n → rn_s n' m (x, lv, st, h0) v h → P E1) (k2 : ¬ c → ∀ n', n' < n → rn_s n' m (pc + 3, lv, st, h0) v h → P E2) : P (@ite α c ic E1 E2) := by
  by_cases hz : zz_cmp cn a d = true
  · rw [if_pos (hc.mpr hz)]
    obtain ⟨n1, l1, r1⟩ := rn_one (s' := (x, lv, st, h0)) hT (by simp only [zz_step, zz_ic]; rw [if_pos hz]; rfl) r
    exact k1 (hc.mpr hz) n1 l1 r1
  · have hcn : ¬ c := fun z => hz (hc.mp z)
    rw [if_neg hcn]
    obtain ⟨n1, l1, r1⟩ := rn_one (s' := (pc + 3, lv, st, h0)) hT (by simp only [zz_step, zz_ic]; rw [if_neg hz]; rfl) r
    exact k2 hcn n1 l1 r1
theorem rn_if {α : Type} (P : α → Prop) {c : Prop} {ic : Decidable c} {E1 E2 : α} {cn : Jvm.ClassFile.Cond} {off : Int} {x y u w : Nat} {vv : Value} {sw : List (Int × Nat)} {a : Int32} (hT : zz_T m pc = some (.ifCond cn off, (x, y, u, w), vv, sw)) (hc : c ↔ zz_cond cn a = true) (r : rn_s n m (pc, lv, .int a :: st, h0) v h)
    (k1 : c → ∀ n', n' < n → rn_s n' m (x, lv, st, h0) v h → P E1) (k2 : ¬ c → ∀ n', n' < n → rn_s n' m (pc + 3, lv, st, h0) v h → P E2) : P (@ite α c ic E1 E2) := by
  by_cases hz : zz_cond cn a = true
  · rw [if_pos (hc.mpr hz)]
    obtain ⟨n1, l1, r1⟩ := rn_one (s' := (x, lv, st, h0)) hT (by simp only [zz_step, zz_if]; rw [if_pos hz]; rfl) r
    exact k1 (hc.mpr hz) n1 l1 r1
  · have hcn : ¬ c := fun z => hz (hc.mp z)
    rw [if_neg hcn]
    obtain ⟨n1, l1, r1⟩ := rn_one (s' := (pc + 3, lv, st, h0)) hT (by simp only [zz_step, zz_if]; rw [if_neg hz]; rfl) r
    exact k2 hcn n1 l1 r1
/-- a branch whose way is known -/
theorem rn_icT {cn : Jvm.ClassFile.Cond} {off : Int} {x y u w : Nat} {vv : Value} {sw : List (Int × Nat)} {a d : Int32} (hT : zz_T m pc = some (.if_icmp cn off, (x, y, u, w), vv, sw)) (hz : zz_cmp cn a d = true) (r : rn_s n m (pc, lv, .int d :: .int a :: st, h0) v h) : ∃ n', n' < n ∧ rn_s n' m (x, lv, st, h0) v h := rn_one hT (by simp only [zz_step, zz_ic]; rw [if_pos hz]; rfl) r
theorem rn_icF {cn : Jvm.ClassFile.Cond} {off : Int} {x y u w : Nat} {vv : Value} {sw : List (Int × Nat)} {a d : Int32} (hT : zz_T m pc = some (.if_icmp cn off, (x, y, u, w), vv, sw)) (hz : ¬ zz_cmp cn a d = true) (r : rn_s n m (pc, lv, .int d :: .int a :: st, h0) v h) : ∃ n', n' < n ∧ rn_s n' m (pc + 3, lv, st, h0) v h := rn_one hT (by simp only [zz_step, zz_ic]; rw [if_neg hz]; rfl) r
theorem rn_ifT {cn : Jvm.ClassFile.Cond} {off : Int} {x y u w : Nat} {vv : Value} {sw : List (Int × Nat)} {a : Int32} (hT : zz_T m pc = some (.ifCond cn off, (x, y, u, w), vv, sw)) (hz : zz_cond cn a = true) (r : rn_s n m (pc, lv, .int a :: st, h0) v h) : ∃ n', n' < n ∧ rn_s n' m (x, lv, st, h0) v h := rn_one hT (by simp only [zz_step, zz_if]; rw [if_pos hz]; rfl) r
theorem rn_ifF {cn : Jvm.ClassFile.Cond} {off : Int} {x y u w : Nat} {vv : Value} {sw : List (Int × Nat)} {a : Int32} (hT : zz_T m pc = some (.ifCond cn off, (x, y, u, w), vv, sw)) (hz : ¬ zz_cond cn a = true) (r : rn_s n m (pc, lv, .int a :: st, h0) v h) : ∃ n', n' < n ∧ rn_s n' m (pc + 3, lv, st, h0) v h := rn_one hT (by simp only [zz_step, zz_if]; rw [if_neg hz]; rfl) r
theorem rn_ire {x y u w : Nat} {vv : Value} {sw : List (Int × Nat)} {a : Int32} (hT : zz_T m pc = some (.ireturn, (x, y, u, w), vv, sw)) (r : rn_s n m (pc, lv, [.int a], h0) v h) : v = some (.int a) ∧ h = h0 := by
  by_cases hz : zz_rt m = 1 ∨ (zz_rt m = 2 ∧ (a = 0 ∨ a = 1))
  · refine rn_ret (q := pc) 1 ?_ r
    rw [zz_walk]
    rw [show zz_Q.1 m pc = _ from hT]
    dsimp only
    rw [show zz_step none zz_us (zz_Q.2.1 m) (.ireturn, (x, y, u, w), vv, sw) pc lv [.int a] h0 = some (.inr (.inl (pc, some (.int a), h0))) from by simp only [zz_step]; exact if_pos hz]
  · exact absurd (rn_no hT (by simp only [zz_step]; exact if_neg hz) r) (fun z => z)
theorem rn_swi {x y u w : Nat} {vv : Value} {sw : List (Int × Nat)} {a : Int32} {dd lo hi : Int} {offs : Array Int} (hT : zz_T m pc = some (.tableswitch dd lo hi offs, (x, y, u, w), vv, sw)) (r : rn_s n m (pc, lv, .int a :: st, h0) v h) : ∃ n', n' < n ∧ rn_s n' m (zz_sw sw x a.toInt, lv, st, h0) v h := rn_one hT rfl r
theorem rn_swl {x y u w : Nat} {vv : Value} {sw : List (Int × Nat)} {a : Int32} {dd : Int} {offs : Array (Int × Int)} (hT : zz_T m pc = some (.lookupswitch dd offs, (x, y, u, w), vv, sw)) (r : rn_s n m (pc, lv, .int a :: st, h0) v h) : ∃ n', n' < n ∧ rn_s n' m (zz_sw sw x a.toInt, lv, st, h0) v h := rn_one hT rfl r
theorem rn_sw1 {α : Type} (P : α → Prop) {t d : Nat} {kk a : Int} {ic : Decidable (a = kk)} {sw : List (Int × Nat)} {E1 E2 : α} (r : rn_s n m (zz_sw ((kk, t) :: sw) d a, lv, st, h0) v h) (k1 : a = kk → rn_s n m (t, lv, st, h0) v h → P E1) (k2 : ¬ a = kk → rn_s n m (zz_sw sw d a, lv, st, h0) v h → P E2) : P (@ite α (a = kk) ic E1 E2) := by
  by_cases hz : a = kk
  · rw [if_pos hz]
    refine k1 hz ?_
    rwa [show zz_sw ((kk, t) :: sw) d a = t from if_pos hz] at r
  · rw [if_neg hz]
    refine k2 hz ?_
    rwa [show zz_sw ((kk, t) :: sw) d a = zz_sw sw d a from if_neg hz] at r
theorem rn_lay (hk : k ≠ 0 ∧ k ≤ 553) : zz_lay (aa_H g) k = some (zz_ly k) := if_pos hk.2
theorem rn_arr {t N : Nat} (hk : k ≠ 0 ∧ k ≤ 553) (hl : zz_ly k = .inl (t, N)) : zz_arr (aa_H g) k t = some N := by
  unfold zz_arr
  rw [rn_lay hk, hl]
  dsimp only
  rw [if_pos rfl]
theorem rn_arr1 {t t' N : Nat} (hk : k ≠ 0 ∧ k ≤ 553) (hl : zz_ly k = .inl (t, N)) (ht : t ≠ t') : zz_arr (aa_H g) k t' = none := by
  unfold zz_arr
  rw [rn_lay hk, hl]
  dsimp only
  rw [if_neg ht]
theorem rn_ial {i : Int32} {N : Nat} {x y u w : Nat} {vv : Value} {sw : List (Int × Nat)} (hT : zz_T m pc = some (.iaload, (x, y, u, w), vv, sw)) (hk : k ≠ 0 ∧ k ≤ 553) (hl : zz_ly k = .inl (0, N)) (r : rn_s n m (pc, lv, .int i :: .ref k :: st, aa_H g) v h) : zz_inb i N = true ∧ ∃ n', n' < n ∧ rn_s n' m (pc + 1, lv, .int (g k i.toNatClampNeg) :: st, aa_H g) v h := by
  obtain ⟨k, rfl⟩ := Nat.exists_eq_succ_of_ne_zero hk.1
  have ha : zz_arr (aa_H g) (k + 1) 0 = some N := rn_arr hk hl
  by_cases hb : zz_inb i N = true
  · refine ⟨hb, rn_one hT ?_ r⟩
    show zz_ial none pc lv (.int i :: .ref (k + 1) :: st) (aa_H g) = _
    unfold zz_ial
    dsimp only
    rw [ha]
    dsimp only
    rw [if_pos hb]
    rfl
  · refine absurd (rn_no hT ?_ r) (fun z => z)
    show zz_ial none pc lv (.int i :: .ref (k + 1) :: st) (aa_H g) = _
    unfold zz_ial
    dsimp only
    rw [ha]
    dsimp only
    rw [if_neg hb]
theorem rn_ias {i a : Int32} {N : Nat} {x y u w : Nat} {vv : Value} {sw : List (Int × Nat)} (hT : zz_T m pc = some (.iastore, (x, y, u, w), vv, sw)) (hk : k ≠ 0 ∧ k ≤ 553) (hl : zz_ly k = .inl (0, N)) (r : rn_s n m (pc, lv, .int a :: .int i :: .ref k :: st, aa_H g) v h) : zz_inb i N = true ∧ ∃ n', n' < n ∧ rn_s n' m (pc + 1, lv, st, aa_H (zz_w g k i.toNatClampNeg a)) v h := by
  obtain ⟨k, rfl⟩ := Nat.exists_eq_succ_of_ne_zero hk.1
  have ha : zz_arr (aa_H g) (k + 1) 0 = some N := rn_arr hk hl
  by_cases hb : zz_inb i N = true
  · refine ⟨hb, rn_one hT ?_ r⟩
    show zz_ias pc lv (.int a :: .int i :: .ref (k + 1) :: st) (aa_H g) = _
    unfold zz_ias
    dsimp only
    rw [ha]
    dsimp only
    rw [if_pos hb]
    rfl
  · refine absurd (rn_no hT ?_ r) (fun z => z)
    show zz_ias pc lv (.int a :: .int i :: .ref (k + 1) :: st) (aa_H g) = _
    unfold zz_ias
    dsimp only
    rw [ha]
    dsimp only
    rw [if_neg hb]
theorem rn_bal {i : Int32} {t N : Nat} {x y u w : Nat} {vv : Value} {sw : List (Int × Nat)} (hT : zz_T m pc = some (.baload, (x, y, u, w), vv, sw)) (hk : k ≠ 0 ∧ k ≤ 553) (hl : zz_ly k = .inl (t, N)) (ht : t = 1 ∨ t = 2) (r : rn_s n m (pc, lv, .int i :: .ref k :: st, aa_H g) v h) : zz_inb i N = true ∧ ∃ n', n' < n ∧ rn_s n' m (pc + 1, lv, .int (g k i.toNatClampNeg) :: st, aa_H g) v h := by
  obtain ⟨k, rfl⟩ := Nat.exists_eq_succ_of_ne_zero hk.1
  have key : zz_bal pc lv (.int i :: .ref (k + 1) :: st) (aa_H g) = if zz_inb i N = true then zz_go (pc + 1) lv (.int (g (k + 1) i.toNatClampNeg) :: st) (aa_H g) else none := by
    unfold zz_bal
    dsimp only
    rcases ht with rfl | rfl
    · rw [rn_arr hk hl]
      dsimp only
      rfl
    · rw [rn_arr1 hk hl (by decide), rn_arr hk hl]
      dsimp only
      rfl
  by_cases hb : zz_inb i N = true
  · rw [if_pos hb] at key
    refine ⟨hb, rn_one hT ?_ r⟩
    exact key
  · rw [if_neg hb] at key
    refine absurd (rn_no hT ?_ r) (fun z => z)
    exact key
theorem rn_bas {i a : Int32} {t N : Nat} {x y u w : Nat} {vv : Value} {sw : List (Int × Nat)} (hT : zz_T m pc = some (.bastore, (x, y, u, w), vv, sw)) (hk : k ≠ 0 ∧ k ≤ 553) (hl : zz_ly k = .inl (t, N)) (ht : t = 1 ∨ t = 2) (r : rn_s n m (pc, lv, .int a :: .int i :: .ref k :: st, aa_H g) v h) : zz_inb i N = true ∧ ∃ n', n' < n ∧ rn_s n' m (pc + 1, lv, st, aa_H (zz_w g k i.toNatClampNeg (if t = 1 then vp_nar .boolean a else vp_nar .byte a))) v h := by
  obtain ⟨k, rfl⟩ := Nat.exists_eq_succ_of_ne_zero hk.1
  have key : zz_bas pc lv (.int a :: .int i :: .ref (k + 1) :: st) (aa_H g) = if zz_inb i N = true then zz_go (pc + 1) lv st (aa_H (zz_w g (k + 1) i.toNatClampNeg (if t = 1 then vp_nar .boolean a else vp_nar .byte a))) else none := by
    unfold zz_bas
    dsimp only
    rcases ht with rfl | rfl
    · rw [rn_arr hk hl, show (if (1 : Nat) = 1 then vp_nar .boolean a else vp_nar .byte a) = vp_nar .boolean a from rfl]
      dsimp only
      rfl
    · rw [rn_arr1 hk hl (by decide), rn_arr hk hl, show (if (2 : Nat) = 1 then vp_nar .boolean a else vp_nar .byte a) = vp_nar .byte a from rfl]
      dsimp only
      rfl
  by_cases hb : zz_inb i N = true
  · rw [if_pos hb] at key
    refine ⟨hb, rn_one hT ?_ r⟩
    exact key
  · rw [if_neg hb] at key
    refine absurd (rn_no hT ?_ r) (fun z => z)
    exact key
/-- a row of objects, this far apart -/
theorem rn_aal {i : Int32} {t N b c : Nat} {rs : List (Option Nat)} {x y u w : Nat} {vv : Value} {sw : List (Int × Nat)} (hT : zz_T m pc = some (.aaload, (x, y, u, w), vv, sw)) (hk : k ≠ 0 ∧ k ≤ 553) (hl : zz_ly k = .inr (.inl (t, rs))) (hN : rs.length = N) (ht : t = 3 ∨ t = 4) (hr : ∀ j, j < N → rs[j]? = some (some (c * j + b))) (r : rn_s n m (pc, lv, .int i :: .ref k :: st, aa_H g) v h) : zz_inb i N = true ∧ ∃ n', n' < n ∧ rn_s n' m (pc + 1, lv, .ref (c * i.toNatClampNeg + b) :: st, aa_H g) v h := by
  subst hN
  obtain ⟨k, rfl⟩ := Nat.exists_eq_succ_of_ne_zero hk.1
  have ha : zz_rar (aa_H g) (k + 1) = some (t, rs) := by
    unfold zz_rar
    rw [rn_lay hk, hl]
  by_cases hb : zz_inb i rs.length = true
  · refine ⟨hb, rn_one hT ?_ r⟩
    have hlt : i.toNatClampNeg < rs.length := by
      have := of_decide_eq_true hb
      omega
    show zz_aal pc lv (.int i :: .ref (k + 1) :: st) (aa_H g) = _
    unfold zz_aal
    dsimp only
    rw [ha]
    dsimp only
    rw [if_pos ⟨hb, ht⟩, hr _ hlt]
    rfl
  · refine absurd (rn_no hT ?_ r) (fun z => z)
    show zz_aal pc lv (.int i :: .ref (k + 1) :: st) (aa_H g) = _
    unfold zz_aal
    dsimp only
    rw [ha]
    dsimp only
    rw [if_neg fun z => hb z.1]
section RF
variable {ci y u w : Nat} {vv : Value} {sw : List (Int × Nat)} {fs : List (Option (Option Nat))}
theorem rn_obj (hk : k ≠ 0 ∧ k ≤ 553) (hl : zz_ly k = .inr (.inr (ci, fs))) : zz_obj (aa_H g) k ci = some fs := by
  unfold zz_obj
  rw [rn_lay hk, hl]
  dsimp only
  rw [if_pos rfl]
theorem rn_gf {i : Nat} (hT : zz_T m pc = some (.getfield i, (ci, y, u, w), vv, sw)) (hk : k ≠ 0 ∧ k ≤ 553) (hl : zz_ly k = .inr (.inr (ci, fs))) (hf : fs[y]? = some none) (r : rn_s n m (pc, lv, .ref k :: st, aa_H g) v h) : ∃ n', n' < n ∧ rn_s n' m (pc + 3, lv, .int (g k y) :: st, aa_H g) v h := by
  obtain ⟨k, rfl⟩ := Nat.exists_eq_succ_of_ne_zero hk.1
  refine rn_one hT ?_ r
  show zz_get ci y pc lv (.ref (k + 1) :: st) (aa_H g) = _
  unfold zz_get
  dsimp only
  rw [rn_obj hk hl]
  dsimp only
  rw [hf]
  rfl
theorem rn_gr {i q : Nat} (hT : zz_T m pc = some (.getfield i, (ci, y, u, w), vv, sw)) (hk : k ≠ 0 ∧ k ≤ 553) (hl : zz_ly k = .inr (.inr (ci, fs))) (hf : fs[y]? = some (some (some q))) (r : rn_s n m (pc, lv, .ref k :: st, aa_H g) v h) : ∃ n', n' < n ∧ rn_s n' m (pc + 3, lv, .ref q :: st, aa_H g) v h := by
  obtain ⟨k, rfl⟩ := Nat.exists_eq_succ_of_ne_zero hk.1
  refine rn_one hT ?_ r
  show zz_get ci y pc lv (.ref (k + 1) :: st) (aa_H g) = _
  unfold zz_get
  dsimp only
  rw [rn_obj hk hl]
  dsimp only
  rw [hf]
  rfl
theorem rn_pf {i : Nat} {a : Int32} (hT : zz_T m pc = some (.putfield i, (ci, y, u, w), vv, sw)) (hk : k ≠ 0 ∧ k ≤ 553) (hl : zz_ly k = .inr (.inr (ci, fs))) (hf : fs[y]? = some none) (r : rn_s n m (pc, lv, .int a :: .ref k :: st, aa_H g) v h) : ∃ n', n' < n ∧ rn_s n' m (pc + 3, lv, st, aa_H (zz_w g k y a)) v h := by
  obtain ⟨k, rfl⟩ := Nat.exists_eq_succ_of_ne_zero hk.1
  have key : zz_put ci y u pc lv (.int a :: .ref (k + 1) :: st) (aa_H g) = if u = 0 ∨ (u = 1 ∧ (a = 0 ∨ a = 1)) then zz_go (pc + 3) lv st (aa_H (zz_w g (k + 1) y a)) else none := by
    unfold zz_put
    dsimp only
    rw [rn_obj hk hl]
    dsimp only
    rw [hf]
    rfl
  by_cases hu : u = 0 ∨ (u = 1 ∧ (a = 0 ∨ a = 1))
  · rw [if_pos hu] at key
    refine rn_one hT ?_ r
    exact key
  · rw [if_neg hu] at key
    refine absurd (rn_no hT ?_ r) (fun z => z)
    exact key
end RF
theorem rn_div {a b : Int32} {x y u w : Nat} {vv : Value} {sw : List (Int × Nat)} (hT : zz_T m pc = some (.idiv, (x, y, u, w), vv, sw)) (r : rn_s n m (pc, lv, .int b :: .int a :: st, h0) v h) : b ≠ 0 ∧ ∃ n', n' < n ∧ rn_s n' m (pc + 1, lv, .int (a / b) :: st, h0) v h := by
  by_cases hb : b = 0
  · exact absurd (rn_no hT (by simp only [zz_step]; exact if_pos hb) r) (fun z => z)
  · exact ⟨hb, rn_one hT (by simp only [zz_step]; exact if_neg hb) r⟩
theorem rn_rem {a b : Int32} {x y u w : Nat} {vv : Value} {sw : List (Int × Nat)} (hT : zz_T m pc = some (.irem, (x, y, u, w), vv, sw)) (r : rn_s n m (pc, lv, .int b :: .int a :: st, h0) v h) : b ≠ 0 ∧ ∃ n', n' < n ∧ rn_s n' m (pc + 1, lv, .int (a - a / b * b) :: st, h0) v h := by
  by_cases hb : b = 0
  · exact absurd (rn_no hT (by simp only [zz_step]; exact if_pos hb) r) (fun z => z)
  · exact ⟨hb, rn_one hT (by simp only [zz_step]; exact if_neg hb) r⟩
theorem rn_ldiv {a b : Int64} {x y u w : Nat} {vv : Value} {sw : List (Int × Nat)} (hT : zz_T m pc = some (.ldiv, (x, y, u, w), vv, sw)) (r : rn_s n m (pc, lv, .long b :: .long a :: st, h0) v h) : b ≠ 0 ∧ ∃ n', n' < n ∧ rn_s n' m (pc + 1, lv, .long (a / b) :: st, h0) v h := by
  by_cases hb : b = 0
  · exact absurd (rn_no hT (by simp only [zz_step]; exact if_pos hb) r) (fun z => z)
  · exact ⟨hb, rn_one hT (by simp only [zz_step]; exact if_neg hb) r⟩
/-- a store behind a local that nobody reads -/
theorem rn_ist {i : Nat} {x0 : Option Value} {a : Int32} (hx : rn_jk x0) (hl : lv[i]? = some x0) : zz_st1 lv (i + 1) (.int a) = lv.set (i + 1) (some (.int a)) := by
  unfold zz_st1 zz_pre
  dsimp only
  rw [hl]
  cases x0 with
  | none => rfl
  | some v =>
    dsimp only
    rw [if_neg (hx v rfl)]
theorem rn_ist0 {a : Int32} : zz_st1 lv 0 (.int a) = lv.set 0 (some (.int a)) := rfl
/-- a local gets a number -/
theorem rn_isx {i : Nat} {a : Int32} {x0 : Option Value} (hT : zz_T m pc = some e) (he : e.1 = .istore i) (hx : rn_jk x0) (hl : lv[i - 1]? = some x0) (hi : 0 < i ∧ i < lv.length) (r : rn_s n m (pc, lv, .int a :: st, h0) v h) : ∃ n', n' < n ∧ rn_s n' m (pc + 2, lv.set i (some (.int a)), st, h0) v h := by
  obtain ⟨e1, ⟨x, y, u, w⟩, vv, sw⟩ := e
  cases he
  refine rn_one hT ?_ r
  show zz_is lv i (pc + 2) (.int a :: st) h0 = _
  unfold zz_is
  dsimp only
  rw [if_pos hi.2]
  obtain ⟨i, rfl⟩ := Nat.exists_eq_succ_of_ne_zero (Nat.pos_iff_ne_zero.mp hi.1)
  rw [show zz_st1 lv (Nat.succ i) (.int a) = lv.set (Nat.succ i) (some (.int a)) from rn_ist hx hl]
  rfl
theorem rn_isn {i : Fin 4} {a : Int32} {x0 : Option Value} (hT : zz_T m pc = some e) (he : e.1 = .istore_n i) (hx : rn_jk x0) (hl : lv[(i : Nat) - 1]? = some x0) (hi : 0 < (i : Nat) ∧ (i : Nat) < lv.length) (r : rn_s n m (pc, lv, .int a :: st, h0) v h) : ∃ n', n' < n ∧ rn_s n' m (pc + 1, lv.set (i : Nat) (some (.int a)), st, h0) v h := by
  obtain ⟨e1, ⟨x, y, u, w⟩, vv, sw⟩ := e
  cases he
  refine rn_one hT ?_ r
  show zz_is lv (i : Nat) (pc + 1) (.int a :: st) h0 = _
  unfold zz_is
  dsimp only
  rw [if_pos hi.2]
  generalize (i : Nat) = j at hi hl ⊢
  obtain ⟨j, rfl⟩ := Nat.exists_eq_succ_of_ne_zero (Nat.pos_iff_ne_zero.mp hi.1)
  rw [show zz_st1 lv (Nat.succ j) (.int a) = lv.set (Nat.succ j) (some (.int a)) from rn_ist hx hl]
  rfl
theorem rn_iin {i : Nat} {d : Int} {a : Int32} {x0 : Option Value} (hT : zz_T m pc = some e) (he : e.1 = .iinc i d) (hx : rn_jk x0) (hl : lv[i - 1]? = some x0) (ha : lv[i]? = some (some (.int a))) (hi : 0 < i ∧ i < lv.length) (r : rn_s n m (pc, lv, st, h0) v h) : ∃ n', n' < n ∧ rn_s n' m (pc + 3, lv.set i (some (.int (a + Int32.ofInt d))), st, h0) v h := by
  obtain ⟨e1, ⟨x, y, u, w⟩, vv, sw⟩ := e
  cases he
  refine rn_one hT ?_ r
  simp only [zz_step]
  have hld : zz_ld lv i = some (.int a) := by
    unfold zz_ld
    rw [ha]
  rw [hld]
  dsimp only
  rw [if_pos hi.2]
  obtain ⟨i, rfl⟩ := Nat.exists_eq_succ_of_ne_zero (Nat.pos_iff_ne_zero.mp hi.1)
  rw [show zz_st1 lv (Nat.succ i) (.int (a + Int32.ofInt d)) = lv.set (Nat.succ i) (some (.int (a + Int32.ofInt d))) from rn_ist hx hl]
  rfl
end RN
/-! LOOPS as functions -/
def lp_n {σ ρ : Type} (f : σ → σ ⊕ ρ) : Nat → σ → Option ρ
  | 0, _ => none
  | n + 1, s => match f s with
    | .inl s' => lp_n f n s'
    | .inr r => some r
noncomputable def lp_f {σ ρ : Type} (d : ρ) (f : σ → σ ⊕ ρ) (s : σ) : ρ := @Classical.epsilon ρ ⟨d⟩ (fun r => ∃ n, lp_n f n s = some r)
theorem lp_l {σ ρ : Type} {d : ρ} {f : σ → σ ⊕ ρ} {s s' : σ} (h : f s = .inl s') : lp_f d f s = lp_f d f s' := by
  unfold lp_f
  congr 1
  funext r
  refine propext ⟨fun ⟨n, e⟩ => ?_, fun ⟨n, e⟩ => ⟨n + 1, ?_⟩⟩
  · cases n with
    | zero => cases e
    | succ n =>
      rw [lp_n, h] at e
      exact ⟨n, e⟩
  · rw [lp_n, h]
    exact e
theorem lp_r {σ ρ : Type} {d : ρ} {f : σ → σ ⊕ ρ} {s : σ} {r : ρ} (h : f s = .inr r) : lp_f d f s = r := by
  have hx : ∃ r', ∃ n, lp_n f n s = some r' := ⟨r, 1, by rw [lp_n, h]⟩
  have h1 : ∃ n, lp_n f n s = some (lp_f d f s) := @Classical.epsilon_spec_aux ρ ⟨d⟩ (fun r => ∃ n, lp_n f n s = some r) hx
  obtain ⟨n, e⟩ := h1
  cases n with
  | zero => cases e
  | succ n =>
    rw [lp_n, h] at e
    exact (Option.some.inj e).symm
/-- a step's worth: where it goes on, or how it ended -/
def lp_q {σ ρ : Type} (P : ρ → Prop) (d : ρ) (f : σ → σ ⊕ ρ) (x : σ ⊕ ρ) : Prop := P (match x with
  | .inl s' => lp_f d f s'
  | .inr r => r)
theorem lp_eq {σ ρ : Type} {d : ρ} {f : σ → σ ⊕ ρ} {s : σ} : lp_f d f s = (match f s with
  | .inl s' => lp_f d f s'
  | .inr r => r) := by
  cases h : f s with
  | inl s' => exact lp_l h
  | inr r => exact lp_r h
theorem lp_go {σ ρ : Type} {P : ρ → Prop} {d : ρ} {f : σ → σ ⊕ ρ} {s : σ} (h : lp_q P d f (f s)) : P (lp_f d f s) := by
  rw [lp_eq]
  exact h
/-! what a method answers and leaves -/
def ir_s (g : aa_G) (v : Option Value) (h : zz_H) (E : Int32) : Prop := v = some (.int E) ∧ h = aa_H g
def iw_s (v : Option Value) (h : zz_H) (E : Int32 × aa_G) : Prop := v = some (.int E.1) ∧ h = aa_H E.2
def ig_s (v : Option Value) (h : zz_H) (E : aa_G) : Prop := v = none ∧ h = aa_H E
def io_s (g : aa_G) (v : Option Value) (h : zz_H) (E : Option Nat) : Prop := v = some (zz_val E) ∧ h = aa_H g ∧ ∀ W, E = some W → ct_tw W
theorem rn_io0 {g : aa_G} {v : Option Value} {h : zz_H} (k : v = some .null ∧ h = aa_H g) : io_s g v h none := ⟨k.1, k.2, fun W e => by cases e⟩
theorem rn_io1 {g : aa_G} {v : Option Value} {h : zz_H} {T : Nat} (hT : ct_tw T) (k : v = some (.ref T) ∧ h = aa_H g) : io_s g v h (some T) := ⟨k.1, k.2, fun W e => by cases e; exact hT⟩
/-! objects of the class by their cell -/
def ar_12 (A : Nat) : Prop := (A ≠ 0 ∧ A ≤ 553) ∧ zz_ly A = .inl (0, 12)
def ar_16 (A : Nat) : Prop := (A ≠ 0 ∧ A ≤ 553) ∧ zz_ly A = .inl (0, 16)
theorem tw_hk {T : Nat} (h : ct_tw T) : T ≠ 0 ∧ T ≤ 553 := ⟨h.1.1, by have := h.1.2; omega⟩
theorem tw_hl {T : Nat} (h : ct_tw T) : zz_ly T = .inr (.inr (7, [none, none, some (some (T + 1)), some (some (T + 2)), some (some (T + 3)), some (some (T + 4))])) := h.2.1
theorem tw_a1 {T : Nat} (h : ct_tw T) : ar_12 (T + 1) := ⟨⟨by omega, by have := h.1.2; omega⟩, h.2.2.1⟩
theorem tw_a2 {T : Nat} (h : ct_tw T) : ar_12 (T + 2) := ⟨⟨by omega, by have := h.1.2; omega⟩, h.2.2.2.1⟩
theorem tw_a3 {T : Nat} (h : ct_tw T) : ar_12 (T + 3) := ⟨⟨by omega, by have := h.1.2; omega⟩, h.2.2.2.2.1⟩
theorem tw_a4 {T : Nat} (h : ct_tw T) : ar_12 (T + 4) := ⟨⟨by omega, by have := h.1.2; omega⟩, h.2.2.2.2.2⟩
theorem ar_hk {A : Nat} (h : ar_12 A) : A ≠ 0 ∧ A ≤ 553 := h.1
/-- a span -/
def sp_ok (P : Nat) : Prop := (P ≠ 0 ∧ P ≤ 553) ∧ zz_ly P = .inr (.inr (4, [none, none, none, none, none, none, none, none]))
theorem sp_hk {P : Nat} (h : sp_ok P) : P ≠ 0 ∧ P ≤ 553 := h.1
theorem sp_hl {P : Nat} (h : sp_ok P) : zz_ly P = .inr (.inr (4, [none, none, none, none, none, none, none, none])) := h.2
theorem sp_c461 : sp_ok 461 := ⟨⟨by decide, by decide⟩, rfl⟩
theorem sp_c462 : sp_ok 462 := ⟨⟨by decide, by decide⟩, rfl⟩
theorem sp_c466 : sp_ok 466 := ⟨⟨by decide, by decide⟩, rfl⟩
theorem sp_c467 : sp_ok 467 := ⟨⟨by decide, by decide⟩, rfl⟩
theorem sp_c468 : sp_ok 468 := ⟨⟨by decide, by decide⟩, rfl⟩
/-- rings of a day -/
def rg_ok (Q : Nat) : Prop := (Q ≠ 0 ∧ Q + 5 ≤ 553) ∧ zz_ly Q = .inr (.inr (3, [none, some (some (Q + 1)), some (some (Q + 2)), some (some (Q + 3)), some (some (Q + 4)), some (some (Q + 5))])) ∧ (ar_16 (Q + 1) ∧ ar_16 (Q + 2)) ∧ sp_ok (Q + 3) ∧ sp_ok (Q + 4) ∧ sp_ok (Q + 5)
theorem rg_c463 : rg_ok 463 := ⟨⟨by decide, by decide⟩, rfl, ⟨⟨⟨by decide, by decide⟩, rfl⟩, ⟨⟨by decide, by decide⟩, rfl⟩⟩, ⟨⟨by decide, by decide⟩, rfl⟩, ⟨⟨by decide, by decide⟩, rfl⟩, ⟨⟨by decide, by decide⟩, rfl⟩⟩
theorem rg_c469 : rg_ok 469 := ⟨⟨by decide, by decide⟩, rfl, ⟨⟨⟨by decide, by decide⟩, rfl⟩, ⟨⟨by decide, by decide⟩, rfl⟩⟩, ⟨⟨by decide, by decide⟩, rfl⟩, ⟨⟨by decide, by decide⟩, rfl⟩, ⟨⟨by decide, by decide⟩, rfl⟩⟩
theorem rg_hk {Q : Nat} (h : rg_ok Q) : Q ≠ 0 ∧ Q ≤ 553 := ⟨h.1.1, by have := h.1.2; omega⟩
theorem rg_hl {Q : Nat} (h : rg_ok Q) : zz_ly Q = .inr (.inr (3, [none, some (some (Q + 1)), some (some (Q + 2)), some (some (Q + 3)), some (some (Q + 4)), some (some (Q + 5))])) := h.2.1
theorem rg_a1 {Q : Nat} (h : rg_ok Q) : ar_16 (Q + 1) := h.2.2.1.1
theorem rg_a2 {Q : Nat} (h : rg_ok Q) : ar_16 (Q + 2) := h.2.2.1.2
theorem rg_s3 {Q : Nat} (h : rg_ok Q) : sp_ok (Q + 3) := h.2.2.2.1
theorem rg_s4 {Q : Nat} (h : rg_ok Q) : sp_ok (Q + 4) := h.2.2.2.2.1
theorem rg_s5 {Q : Nat} (h : rg_ok Q) : sp_ok (Q + 5) := h.2.2.2.2.2
theorem rn_twat {i : Int32} (h : zz_inb i 4 = true) : ct_tw (5 * i.toNatClampNeg + 14) := by
  have h1 := of_decide_eq_true h
  exact cs_tw_at cs_ok_2 (by omega)
theorem tw_c14 : ct_tw 14 := cs_ok_2.2.2.1
theorem rn_o0 : ∀ T, (none : Option Nat) = some T → ct_tw T := fun T e => by cases e
theorem rn_o1 {W : Nat} (h : ct_tw W) : ∀ T, some W = some T → ct_tw T := fun T e => by cases e; exact h
