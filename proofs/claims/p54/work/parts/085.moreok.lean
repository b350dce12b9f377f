/-! the further steps: what they find, what they leave -/
section YK
variable {O : yy_D} {X : yy_X} {pc x y t : Nat} {lv : zz_V} {st : List Value} {h : zz_H} {s' : zz_S}
theorem yy_step_or {us : Nat → List Nat} {rt : Nat} {e : zz_I} {o : zz_O} (hs : yy_step O X us rt e pc lv st h = some o) : zz_step X.1 us rt e pc lv st h = some o ∨ yy_more O X rt e pc lv st h = some o := by
  unfold yy_step at hs
  split at hs
  · rename_i o2 h2
    cases hs
    exact Or.inl h2
  · exact Or.inr hs
theorem yy_get_ok (hs : yy_get O x y pc lv st h = some (.inl s')) : ∃ (k : Nat) (r : List Value), st = .ref k :: r ∧ (yy_old k = true ∧ k - yy_B < O.1 ∧ x = 14) ∧ ((y = 0 ∧ s' = (pc + 3, lv, .ref (k + 100) :: r, h)) ∨ (y = 1 ∧ s' = (pc + 3, lv, .int 0 :: r, h))) := by
  unfold yy_get at hs
  split at hs
  · split at hs
    · rename_i hc
      split at hs
      · cases hs
        exact ⟨_, _, rfl, hc, Or.inl ⟨rfl, rfl⟩⟩
      · cases hs
        exact ⟨_, _, rfl, hc, Or.inr ⟨rfl, rfl⟩⟩
      · cases hs
    · cases hs
  · cases hs
theorem yy_len_ok (hs : yy_len O pc lv st h = some (.inl s')) : ∃ (k : Nat) (r : List Value), st = .ref (k + 1) :: r ∧ ((yy_old (k + 1) = true ∧ ∃ l, O.2 (k + 1 - yy_B) = some l ∧ s' = (pc + 1, lv, .int (Int32.ofNat l.length) :: r, h)) ∨ (∃ t rs, zz_rar h (k + 1) = some (t, rs) ∧ t < 9 ∧ s' = (pc + 1, lv, .int (Int32.ofNat rs.length) :: r, h))) := by
  unfold yy_len at hs
  split at hs
  · split at hs
    · cases hs
    · split at hs
      · rename_i ho
        split at hs
        · rename_i l hl
          cases hs
          exact ⟨_, _, rfl, Or.inl ⟨ho, l, hl, rfl⟩⟩
        · cases hs
      · split at hs
        · rename_i t rs hr
          split at hs
          · rename_i ht
            cases hs
            exact ⟨_, _, rfl, Or.inr ⟨t, rs, hr, ht, rfl⟩⟩
          · cases hs
        · cases hs
  · cases hs
theorem yy_bal_ok (hs : yy_bal O pc lv st h = some (.inl s')) : ∃ (i : Int32) (k : Nat) (r : List Value) (l : List Int32), st = .int i :: .ref k :: r ∧ yy_old k = true ∧ O.2 (k - yy_B) = some l ∧ vp_in i l.length ∧ s' = (pc + 1, lv, .int (l.getD i.toNatClampNeg 0) :: r, h) := by
  unfold yy_bal at hs
  split at hs
  · split at hs
    · rename_i ho
      split at hs
      · rename_i l hl
        split at hs
        · rename_i hi
          cases hs
          exact ⟨_, _, _, l, rfl, ho, hl, zz_inb_ok hi, rfl⟩
        · cases hs
      · cases hs
    · cases hs
  · cases hs
theorem yy_aal_ok (hs : yy_aal pc lv st h = some (.inl s')) : ∃ (i : Int32) (r : List Value) (k t : Nat) (rs : List (Option Nat)) (q : Option Nat), st = .int i :: .ref (k + 1) :: r ∧ zz_rar h (k + 1) = some (t, rs) ∧ vp_in i rs.length ∧ (5 ≤ t ∧ t ≤ 8) ∧ rs[i.toNatClampNeg]? = some q ∧ s' = (pc + 1, lv, zz_val q :: r, h) := by
  unfold yy_aal at hs
  split at hs
  · split at hs
    · cases hs
    · split at hs
      · rename_i t rs hr
        split at hs
        · rename_i hc
          split at hs
          · rename_i q hq
            cases hs
            exact ⟨_, _, _, t, rs, q, rfl, hr, zz_inb_ok hc.1, hc.2, hq, rfl⟩
          · cases hs
        · cases hs
      · cases hs
  · cases hs
theorem yy_aas_ok (hs : yy_aas pc lv st h = some (.inl s')) : ∃ (i : Int32) (r : List Value) (k t : Nat) (rs : List (Option Nat)), zz_rar h (k + 1) = some (t, rs) ∧ vp_in i rs.length ∧ (5 ≤ t ∧ t ≤ 8) ∧
    ((∃ q, st = .ref (q + 1) :: .int i :: .ref (k + 1) :: r ∧ yy_kd h t (q + 1) = true ∧ s' = (pc + 1, lv, r, (h.1, (zz_up h.2.1 (k + 1) (.inr (.inl (t, rs.set i.toNatClampNeg (some (q + 1))))), h.2.2)))) ∨
     (st = .null :: .int i :: .ref (k + 1) :: r ∧ t = 5 ∧ s' = (pc + 1, lv, r, (h.1, (zz_up h.2.1 (k + 1) (.inr (.inl (t, rs.set i.toNatClampNeg none))), h.2.2))))) := by
  unfold yy_aas at hs
  split at hs
  · split at hs
    · split at hs
      · rename_i t rs hr
        split at hs
        · rename_i hc
          cases hs
          exact ⟨_, _, _, t, rs, hr, zz_inb_ok hc.1, ⟨hc.2.1, hc.2.2.1⟩, Or.inl ⟨_, rfl, hc.2.2.2, rfl⟩⟩
        · cases hs
      · cases hs
    · cases hs
  · split at hs
    · cases hs
    · split at hs
      · rename_i t rs hr
        split at hs
        · rename_i hc
          cases hs
          exact ⟨_, _, _, t, rs, hr, zz_inb_ok hc.1, by omega, Or.inr ⟨rfl, hc.2, rfl⟩⟩
        · cases hs
      · cases hs
  · cases hs
theorem yy_cln_ok (hs : yy_cln t pc lv st h = some (.inl s')) : ∃ (k : Nat) (r : List Value), st = .ref (k + 1) :: r ∧ (r.map fun v => v.category).sum ≤ 8 ∧ k + 1 ≤ h.1.1 ∧
    ((∃ n, h.2.1 (k + 1) = .inl (t, n) ∧ (t = 0 ∨ (t = 2 ∧ (List.range n).all (fun j => yy_fb (h.2.2 (k + 1) j)) = true)) ∧ s' = (pc + 3, lv, .ref (h.1.1 + 1) :: r, ((h.1.1 + 1, h.1.2 + n), (zz_up h.2.1 (h.1.1 + 1) (.inl (t, n)), zz_up h.2.2 (h.1.1 + 1) (h.2.2 (k + 1)))))) ∨
     (∃ rs, h.2.1 (k + 1) = .inr (.inl (t, rs)) ∧ t = 5 ∧ s' = (pc + 3, lv, .ref (h.1.1 + 1) :: r, ((h.1.1 + 1, h.1.2 + rs.length), (zz_up h.2.1 (h.1.1 + 1) (.inr (.inl (t, rs))), h.2.2))))) := by
  unfold yy_cln at hs
  split at hs
  · split at hs
    · cases hs
    · split at hs
      · rename_i h8
        unfold zz_lay at hs
        split at hs
        · rename_i u n hl
          split at hl
          · rename_i hk
            have hl := Option.some.inj hl
            split at hs
            · rename_i hc
              obtain ⟨rfl, hc⟩ := hc
              cases hs
              exact ⟨_, _, rfl, h8, hk, Or.inl ⟨n, hl, hc, rfl⟩⟩
            · cases hs
          · cases hl
        · rename_i u rs hl
          split at hl
          · rename_i hk
            have hl := Option.some.inj hl
            split at hs
            · rename_i hc
              obtain ⟨rfl, hc⟩ := hc
              cases hs
              exact ⟨_, _, rfl, h8, hk, Or.inr ⟨rs, hl, hc, rfl⟩⟩
            · cases hs
          · cases hl
        · cases hs
      · cases hs
  · cases hs
theorem yy_cst_ok (hs : yy_cst t pc lv st h = some (.inl s')) : ∃ (k : Nat) (r : List Value), st = .ref (k + 1) :: r ∧ k + 1 ≤ h.1.1 ∧ s' = (pc + 3, lv, .ref (k + 1) :: r, h) ∧
    ((∃ n, h.2.1 (k + 1) = .inl (t, n) ∧ (t = 0 ∨ t = 2)) ∨ (∃ rs, h.2.1 (k + 1) = .inr (.inl (t, rs)) ∧ t = 5)) := by
  unfold yy_cst at hs
  split at hs
  · split at hs
    · cases hs
    · unfold zz_lay at hs
      split at hs
      · rename_i u n hl
        split at hl
        · rename_i hk
          have hl := Option.some.inj hl
          split at hs
          · rename_i hc
            obtain ⟨rfl, hc⟩ := hc
            cases hs
            exact ⟨_, _, rfl, hk, rfl, Or.inl ⟨n, hl, hc⟩⟩
          · cases hs
        · cases hl
      · rename_i u rs hl
        split at hl
        · rename_i hk
          have hl := Option.some.inj hl
          split at hs
          · rename_i hc
            obtain ⟨rfl, hc⟩ := hc
            cases hs
            exact ⟨_, _, rfl, hk, rfl, Or.inr ⟨rs, hl, hc⟩⟩
          · cases hs
        · cases hl
      · cases hs
  · cases hs
theorem yy_cpy_ok (hs : yy_cpy O pc lv st h = some (.inl s')) : ∃ (n sp dp : Int32) (r : List Value) (a d na nb : Nat) (f : Nat → Int32), st = .int n :: .int dp :: .ref (a + 1) :: .int sp :: .ref d :: r ∧ zz_arr h (a + 1) 2 = some na ∧ yy_src O h d = some (nb, f) ∧ (¬ sp < 0 ∧ ¬ dp < 0 ∧ ¬ n < 0 ∧ sp.toNatClampNeg + n.toNatClampNeg ≤ nb ∧ dp.toNatClampNeg + n.toNatClampNeg ≤ na ∧ (r.map fun v => v.category).sum ≤ 8 ∧ (List.range n.toNatClampNeg).all (fun i => yy_fb (f (sp.toNatClampNeg + i))) = true) ∧
    s' = (pc + 3, lv, r, (h.1, (h.2.1, zz_up h.2.2 (a + 1) (va_cpy f (h.2.2 (a + 1)) sp.toNatClampNeg dp.toNatClampNeg n.toNatClampNeg)))) := by
  unfold yy_cpy at hs
  split at hs
  · split at hs
    · cases hs
    · split at hs
      · rename_i na nb f ha hb
        split at hs
        · rename_i hc
          cases hs
          exact ⟨_, _, _, _, _, _, na, nb, f, rfl, ha, hb, hc, rfl⟩
        · cases hs
      · cases hs
  · cases hs
theorem yy_src_ok {d nb : Nat} {f : Nat → Int32} (hs : yy_src O h d = some (nb, f)) : (yy_old d = true ∧ ∃ l, O.2 (d - yy_B) = some l ∧ nb = l.length ∧ f = fun j => l.getD j 0) ∨ (∃ k, d = k + 1 ∧ zz_arr h (k + 1) 2 = some nb ∧ f = h.2.2 (k + 1)) := by
  unfold yy_src at hs
  split at hs
  · rename_i ho
    split at hs
    · rename_i l hl
      cases hs
      exact Or.inl ⟨ho, l, hl, rfl, rfl⟩
    · cases hs
  · split at hs
    · rename_i n hn
      split at hs
      · cases hs
      · rename_i hd
        cases hs
        obtain ⟨k, rfl⟩ := Nat.exists_eq_succ_of_ne_zero hd
        exact Or.inr ⟨k, rfl, hn, rfl⟩
    · cases hs
/-- the counts grow, and what lies beyond them stays empty -/
theorem yy_more_more {rt : Nat} {q : zz_I} (hs : yy_more O X rt q pc lv st h = some (.inl s')) : h.1.1 ≤ s'.2.2.2.1.1 ∧ h.1.2 ≤ s'.2.2.2.1.2 ∧ ((∀ k, h.1.1 < k → h.2.2 k = fun _ => 0) → ∀ k, s'.2.2.2.1.1 < k → s'.2.2.2.2.2 k = fun _ => 0) := by
  obtain ⟨i, ⟨x, y, u, w⟩, v, sw⟩ := q
  have same : ∀ {a : Nat} {b : zz_V} {c : List Value}, s' = (a, b, c, h) → h.1.1 ≤ s'.2.2.2.1.1 ∧ h.1.2 ≤ s'.2.2.2.1.2 ∧ ((∀ k, h.1.1 < k → h.2.2 k = fun _ => 0) → ∀ k, s'.2.2.2.1.1 < k → s'.2.2.2.2.2 k = fun _ => 0) := fun e => by
    rw [e]
    exact ⟨Nat.le_refl _, Nat.le_refl _, id⟩
  cases i with
  | ldc n =>
    simp only [yy_more] at hs
    split at hs
    · cases hs
      exact same rfl
    · cases hs
  | ldc_w n =>
    simp only [yy_more] at hs
    split at hs
    · cases hs
      exact same rfl
    · cases hs
  | getstatic n =>
    simp only [yy_more] at hs
    split at hs
    · cases hs
      exact same rfl
    · cases hs
      exact same rfl
    · split at hs
      · cases hs
        exact same rfl
      · cases hs
        exact same rfl
    · cases hs
  | getfield n =>
    obtain ⟨k, r, -, -, ⟨-, e⟩ | ⟨-, e⟩⟩ := yy_get_ok hs
    · exact same e
    · exact same e
  | arraylength =>
    obtain ⟨k, r, -, ⟨-, l, -, e⟩ | ⟨t, rs, -, -, e⟩⟩ := yy_len_ok hs
    · exact same e
    · exact same e
  | baload =>
    obtain ⟨i, k, r, l, -, -, -, -, e⟩ := yy_bal_ok hs
    exact same e
  | aaload =>
    obtain ⟨i, r, k, t, rs, q, -, -, -, -, -, e⟩ := yy_aal_ok hs
    exact same e
  | aastore =>
    obtain ⟨i, r, k, t, rs, -, -, -, ⟨q, -, -, rfl⟩ | ⟨-, -, rfl⟩⟩ := yy_aas_ok hs
    · exact ⟨Nat.le_refl _, Nat.le_refl _, id⟩
    · exact ⟨Nat.le_refl _, Nat.le_refl _, id⟩
  | checkcast n =>
    obtain ⟨k, r, -, -, e, -⟩ := yy_cst_ok hs
    exact same e
  | ishl =>
    obtain ⟨a, d, r, -, e⟩ := zz_i2_ok hs
    exact same e
  | i2c =>
    simp only [yy_more] at hs
    split at hs
    · cases hs
      exact same rfl
    · cases hs
  | lrem =>
    simp only [yy_more] at hs
    split at hs
    · split at hs
      · cases hs
      · cases hs
        exact same rfl
    · cases hs
  | invokestatic n =>
    simp only [yy_more] at hs
    split at hs
    · obtain ⟨n, sp, dp, r, a, d, na, nb, f, -, ha, -, -, rfl⟩ := yy_cpy_ok hs
      have hla := (zz_arr_ok ha).1
      refine ⟨Nat.le_refl _, Nat.le_refl _, fun hZ k hk => ?_⟩
      have hk : h.1.1 < k := hk
      show zz_up h.2.2 (a + 1) _ k = _
      rw [zz_up_other _ _ (by omega)]
      exact hZ k hk
    · cases hs
  | invokevirtual n =>
    simp only [yy_more] at hs
    split at hs
    · obtain ⟨k, r, -, -, -, ⟨n, -, -, rfl⟩ | ⟨rs, -, -, rfl⟩⟩ := yy_cln_ok hs
      · refine ⟨Nat.le_succ _, Nat.le_add_right _ _, fun hZ k' hk => ?_⟩
        have hk : h.1.1 + 1 < k' := hk
        show zz_up h.2.2 (h.1.1 + 1) _ k' = _
        rw [zz_up_other _ _ (by omega)]
        exact hZ k' (by omega)
      · exact ⟨Nat.le_succ _, Nat.le_add_right _ _, fun hZ k' hk => hZ k' (Nat.lt_of_succ_lt hk)⟩
    · unfold yy_cv zz_call at hs
      repeat' split at hs
      all_goals cases hs
  | ireturn =>
    simp only [yy_more] at hs
    repeat' split at hs
    all_goals cases hs
  | _ => cases hs
theorem yy_more_end {rt : Nat} {q : zz_I} {r : zz_R} (hs : yy_more O X rt q pc lv st h = some (.inr (.inl r))) : r.1 = pc ∧ r.2.2 = h ∧ st = r.2.1.toList ∧ q.1 = .ireturn ∧ ∃ a, r.2.1 = some (.int a) ∧ ((rt = 4 ∧ 0 ≤ a ∧ a ≤ 65535) ∨ (rt = 5 ∧ (a = 0 ∨ a = 1))) := by
  obtain ⟨i, ⟨x, y, u, w⟩, v, sw⟩ := q
  cases i <;> simp only [yy_more, yy_get, yy_len, yy_bal, yy_aal, yy_aas, yy_cln, yy_cst, yy_cpy, yy_cv, zz_i2, zz_go, zz_call] at hs
  all_goals
    repeat' split at hs
  all_goals first
    | (cases hs; done)
    | (cases hs; exact ⟨rfl, rfl, rfl, rfl, _, rfl, by assumption⟩)
theorem yy_more_call {rt : Nat} {q : zz_I} {m2 : Nat} {as rest : List Value} (hs : yy_more O X rt q pc lv st h = some (.inr (.inr (m2, as, rest)))) : ∃ n k as', q.1 = .invokevirtual n ∧ q.2.1.1 = m2 ∧ m2 < 100005 ∧ (rest.map fun v => v.category).sum ≤ 8 ∧ as = .ref k :: as' ∧ as'.length = q.2.1.2.1 ∧ st = as'.reverse ++ .ref k :: rest ∧ yy_old k = true ∧ k - yy_B < O.1 ∧ q.2.1.2.2.1 = 14 := by
  obtain ⟨i, ⟨x, y, u, w⟩, v, sw⟩ := q
  cases i with
  | invokevirtual n =>
    simp only [yy_more] at hs
    split at hs
    · exfalso
      simp only [yy_cln, zz_go] at hs
      repeat' split at hs
      all_goals cases hs
    · rename_i hx
      unfold yy_cv at hs
      split at hs
      · rename_i k r hd
        split at hs
        · rename_i hc
          unfold zz_call at hs
          split at hs
          · rename_i h8
            cases hs
            exact ⟨n, k, _, rfl, rfl, Nat.not_le.mp hx, h8, rfl, by rw [List.length_reverse, List.length_take]; exact Nat.min_eq_left hc.1, by rw [List.reverse_reverse, ← hd, List.take_append_drop], hc.2.1, hc.2.2.1, hc.2.2.2⟩
          · cases hs
        · cases hs
      · cases hs
  | _ =>
    exfalso
    simp only [yy_more, yy_get, yy_len, yy_bal, yy_aal, yy_aas, yy_cst, yy_cpy, zz_i2, zz_go] at hs
    repeat' split at hs
    all_goals cases hs
end YK
