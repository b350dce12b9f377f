/-! RUNS OF THE SMALL MACHINE ARE RUNS OF THE MACHINE -/
def zz_rn : zz_S ⊕ zz_R → Nat × Nat
  | .inl s => s.2.2.2.1
  | .inr r => r.2.2.1
theorem zz_step_more {X : zz_X} {us : Nat → List Nat} {rt pc : Nat} {q : zz_I} {lv : zz_V} {st : List Value} {h : zz_H} {s' : zz_S} (hs : zz_step X us rt q pc lv st h = some (.inl s')) : h.1.1 ≤ s'.2.2.2.1.1 ∧ h.1.2 ≤ s'.2.2.2.1.2 := by
  obtain ⟨i, ⟨x, y, u, w⟩, v, sw⟩ := q
  cases i <;> simp only [zz_step, zz_go, zz_int, zz_lng, zz_rfl, zz_is, zz_ls, zz_as, zz_i2, zz_l2, zz_if, zz_ic, zz_get, zz_put, zz_ial, zz_bal, zz_ias, zz_bas, zz_aal, zz_aas, zz_len, zz_new, zz_nar, zz_anr, zz_cpy, zz_mm, zz_ma, zz_call, zz_cs, zz_cv, zz_more] at hs
  all_goals
    repeat' split at hs
  all_goals first
    | (cases hs; done)
    | (cases hs; exact ⟨Nat.le_refl _, Nat.le_refl _⟩)
    | (cases hs; exact ⟨Nat.le_succ _, Nat.le_add_right _ _⟩)
theorem zz_step_zero {X : zz_X} {us : Nat → List Nat} {rt pc : Nat} {q : zz_I} {lv : zz_V} {st : List Value} {h : zz_H} {s' : zz_S} (hZ : zz_Zr h) (hs : zz_step X us rt q pc lv st h = some (.inl s')) : zz_Zr s'.2.2.2 := by
  obtain ⟨i, ⟨x, y, u, w⟩, v, sw⟩ := q
  have hw : ∀ (k j : Nat) (a : Int32), k ≤ h.1.1 → zz_Zr (h.1, (h.2.1, zz_w h.2.2 k j a)) := fun k j a hk k' hk' => by
    have hk' : h.1.1 < k' := hk'
    show zz_w h.2.2 k j a k' = _
    rw [zz_w_other _ _ _ (by omega)]
    exact hZ k' hk'
  cases i with
  | putfield n =>
    obtain ⟨k, r, fs, ho, ⟨a, -, -, -, rfl⟩ | ⟨q, q0, -, -, -, rfl⟩⟩ := zz_put_ok hs
    · exact hw _ _ _ (zz_obj_ok ho).1
    · exact hZ
  | iastore =>
    obtain ⟨a, i, r, k, n, -, ho, -, rfl⟩ := zz_ias_ok hs
    exact hw _ _ _ (zz_arr_ok ho).1
  | bastore =>
    obtain ⟨a, i, r, k, n, t, -, ho, -, ⟨-, rfl⟩ | ⟨-, rfl⟩⟩ := zz_bas_ok hs
    · exact hw _ _ _ (zz_arr_ok ho).1
    · exact hw _ _ _ (zz_arr_ok ho).1
  | new n =>
    cases hs
    exact fun k' hk' => hZ k' (Nat.lt_of_succ_lt hk')
  | newarray n =>
    obtain ⟨n, r, -, -, -, rfl⟩ := zz_nar_ok hs
    exact fun k' hk' => hZ k' (Nat.lt_of_succ_lt hk')
  | anewarray n =>
    obtain ⟨n, r, -, -, -, rfl⟩ := zz_anr_ok hs
    exact fun k' hk' => hZ k' (Nat.lt_of_succ_lt hk')
  | invokestatic n =>
    simp only [zz_step] at hs
    split at hs
    · simp only [zz_cs, zz_call] at hs
      repeat' split at hs
      all_goals cases hs
    · split at hs
      · obtain ⟨n, sp, dp, r, a, d, na, nb, -, ha, -, -, rfl⟩ := zz_cpy_ok hs
        intro k' hk'
        have hk' : h.1.1 < k' := hk'
        have hla := (zz_arr_ok ha).1
        show zz_up h.2.2 (a + 1) _ k' = _
        rw [zz_up_other _ _ (by omega)]
        exact hZ k' hk'
      · split at hs
        · obtain ⟨a, d, r, -, -, rfl⟩ := zz_mm_ok hs
          exact hZ
        · split at hs
          · obtain ⟨a, d, r, -, -, rfl⟩ := zz_mm_ok hs
            exact hZ
          · split at hs
            · obtain ⟨a, r, -, -, rfl⟩ := zz_ma_ok hs
              exact hZ
            · cases hs
  | _ =>
    simp only [zz_step, zz_go, zz_int, zz_lng, zz_rfl, zz_is, zz_ls, zz_as, zz_i2, zz_l2, zz_if, zz_ic, zz_get, zz_ial, zz_bal, zz_aal, zz_aas, zz_len, zz_call, zz_cs, zz_cv] at hs
    repeat' split at hs
    all_goals first
      | (cases hs; done)
      | (cases hs; exact hZ)
theorem zz_step_end {X : zz_X} {us : Nat → List Nat} {rt pc : Nat} {q : zz_I} {lv : zz_V} {st : List Value} {h : zz_H} {r : zz_R} (hs : zz_step X us rt q pc lv st h = some (.inr (.inl r))) : r.1 = pc ∧ r.2.2 = h ∧ st = r.2.1.toList ∧
    ((q.1 = .ireturn ∧ ∃ a, r.2.1 = some (.int a) ∧ (rt = 1 ∨ (rt = 2 ∧ (a = 0 ∨ a = 1)))) ∨ (q.1 = .areturn ∧ rt = 3 ∧ (r.2.1 = some .null ∨ ∃ k, r.2.1 = some (.ref k))) ∨ (q.1 = .return_ ∧ rt = 0 ∧ r.2.1 = none)) := by
  obtain ⟨i, ⟨x, y, u, w⟩, v, sw⟩ := q
  cases i <;> simp only [zz_step, zz_go, zz_int, zz_lng, zz_rfl, zz_is, zz_ls, zz_as, zz_i2, zz_l2, zz_if, zz_ic, zz_get, zz_put, zz_ial, zz_bal, zz_ias, zz_bas, zz_aal, zz_aas, zz_len, zz_new, zz_nar, zz_anr, zz_cpy, zz_mm, zz_ma, zz_call, zz_cs, zz_cv, zz_more] at hs
  all_goals
    repeat' split at hs
  all_goals first
    | (cases hs; done)
    | (cases hs; exact ⟨rfl, rfl, rfl, Or.inl ⟨rfl, _, rfl, by assumption⟩⟩)
    | (cases hs; exact ⟨rfl, rfl, rfl, Or.inr (Or.inl ⟨rfl, by assumption, Or.inr ⟨_, rfl⟩⟩)⟩)
    | (cases hs; exact ⟨rfl, rfl, rfl, Or.inr (Or.inl ⟨rfl, by assumption, Or.inl rfl⟩)⟩)
    | (cases hs; exact ⟨rfl, rfl, rfl, Or.inr (Or.inr ⟨rfl, by assumption, rfl⟩)⟩)
/-- what a call takes: a static method's, or an object's -/
theorem zz_step_call {X : zz_X} {us : Nat → List Nat} {rt pc x y u w m2 : Nat} {i : Instr} {v : Value} {sw : List (Int × Nat)} {lv : zz_V} {st as rest : List Value} {h : zz_H} (hs : zz_step X us rt (i, (x, y, u, w), v, sw) pc lv st h = some (.inr (.inr (m2, as, rest)))) : m2 = x ∧ (rest.map fun v => v.category).sum ≤ 8 ∧
    (((∃ k, i = .invokestatic k) ∧ x < 100000 ∧ as.length = y ∧ st = as.reverse ++ rest) ∨
     (((∃ k, i = .invokevirtual k) ∨ ((∃ k, i = .invokespecial k) ∧ x ≠ 100000)) ∧ ∃ (k : Nat) (as' : List Value), as = .ref (k + 1) :: as' ∧ as'.length = y ∧ st = as'.reverse ++ .ref (k + 1) :: rest ∧ (zz_obj h (k + 1) u).isSome = true)) := by
  have hcs : zz_cs x y st = some (.inr (.inr (m2, as, rest))) → m2 = x ∧ (rest.map fun v => v.category).sum ≤ 8 ∧ as.length = y ∧ st = as.reverse ++ rest := by
    intro hh
    unfold zz_cs zz_call at hh
    split at hh
    · rename_i hl
      split at hh
      · rename_i hr
        cases hh
        exact ⟨rfl, hr, by rw [List.length_reverse, List.length_take]; omega, by rw [List.reverse_reverse, List.take_append_drop]⟩
      · cases hh
    · cases hh
  have hcv : zz_cv x y u st h = some (.inr (.inr (m2, as, rest))) → m2 = x ∧ (rest.map fun v => v.category).sum ≤ 8 ∧ ∃ (k : Nat) (as' : List Value), as = .ref (k + 1) :: as' ∧ as'.length = y ∧ st = as'.reverse ++ .ref (k + 1) :: rest ∧ (zz_obj h (k + 1) u).isSome = true := by
    intro hh
    unfold zz_cv zz_call at hh
    split at hh
    · rename_i k r hd
      split at hh
      · cases hh
      · rename_i k
        split at hh
        · rename_i hl
          split at hh
          · rename_i hr
            cases hh
            exact ⟨rfl, hr, _, _, rfl, by rw [List.length_reverse, List.length_take]; omega, by rw [List.reverse_reverse, ← hd, List.take_append_drop], hl.2⟩
          · cases hh
        · cases hh
    · cases hh
  cases i with
  | invokestatic n =>
    simp only [zz_step] at hs
    split at hs
    · rename_i hx
      obtain ⟨a1, a2, a3, a4⟩ := hcs hs
      exact ⟨a1, a2, Or.inl ⟨⟨n, rfl⟩, hx, a3, a4⟩⟩
    · exfalso
      simp only [zz_cpy, zz_mm, zz_ma, zz_go] at hs
      repeat' split at hs
      all_goals cases hs
  | invokevirtual n =>
    obtain ⟨a1, a2, a3⟩ := hcv hs
    exact ⟨a1, a2, Or.inr ⟨Or.inl ⟨n, rfl⟩, a3⟩⟩
  | invokespecial n =>
    simp only [zz_step] at hs
    split at hs
    · exfalso
      simp only [zz_go] at hs
      repeat' split at hs
      all_goals cases hs
    · rename_i hx
      obtain ⟨a1, a2, a3⟩ := hcv hs
      exact ⟨a1, a2, Or.inr ⟨Or.inr ⟨⟨n, rfl⟩, hx⟩, a3⟩⟩
  | _ =>
    exfalso
    simp only [zz_step, zz_go, zz_int, zz_lng, zz_rfl, zz_is, zz_ls, zz_as, zz_i2, zz_l2, zz_if, zz_ic, zz_get, zz_put, zz_ial, zz_bal, zz_ias, zz_bas, zz_aal, zz_aas, zz_len, zz_new, zz_nar, zz_anr] at hs
    repeat' split at hs
    all_goals cases hs
theorem zz_walk_more {P : zz_P} {us : Nat → List Nat} {X : zz_X} : ∀ (n m : Nat) (s : zz_S) (r : zz_S ⊕ zz_R), zz_walk P us X n m s = some r → s.2.2.2.1.1 ≤ (zz_rn r).1 ∧ s.2.2.2.1.2 ≤ (zz_rn r).2
  | 0, m, s, r, h => by
    cases h
    exact ⟨Nat.le_refl _, Nat.le_refl _⟩
  | n + 1, m, (pc, lv, st, h), r, hw => by
    unfold zz_walk at hw
    split at hw
    · cases hw
    · split at hw
      · cases hw
      · rename_i s' hs
        have h1 := zz_step_more hs
        have h2 := zz_walk_more n m s' r hw
        exact ⟨Nat.le_trans h1.1 h2.1, Nat.le_trans h1.2 h2.2⟩
      · rename_i r' hs
        cases hw
        have h1 := zz_step_end hs
        show h.1.1 ≤ r'.2.2.1.1 ∧ h.1.2 ≤ r'.2.2.1.2
        rw [h1.2.1]
        exact ⟨Nat.le_refl _, Nat.le_refl _⟩
      · rename_i m2 as rest hs
        split at hw
        · split at hw
          · rename_i q v h2 hc
            have h1 := zz_walk_more n m2 _ _ hc
            have h3 := zz_walk_more n m _ r hw
            exact ⟨Nat.le_trans h1.1 h3.1, Nat.le_trans h1.2 h3.2⟩
          · cases hw
        · cases hw

def zz_rz : zz_S ⊕ zz_R → zz_H
  | .inl s => s.2.2.2
  | .inr r => r.2.2
theorem zz_walk_zero {P : zz_P} {us : Nat → List Nat} {X : zz_X} : ∀ (n m : Nat) (s : zz_S) (r : zz_S ⊕ zz_R), zz_Zr s.2.2.2 → zz_walk P us X n m s = some r → zz_Zr (zz_rz r)
  | 0, m, s, r, hZ, h => by
    cases h
    exact hZ
  | n + 1, m, (pc, lv, st, h), r, hZ, hw => by
    unfold zz_walk at hw
    split at hw
    · cases hw
    · split at hw
      · cases hw
      · rename_i s' hs
        exact zz_walk_zero n m s' r (zz_step_zero hZ hs) hw
      · rename_i r' hs
        cases hw
        have h1 := zz_step_end hs
        show zz_Zr r'.2.2
        rw [h1.2.1]
        exact hZ
      · rename_i m2 as rest hs
        split at hw
        · split at hw
          · rename_i q v h2 hc
            exact zz_walk_zero n m (pc + 3, lv, v.toList ++ rest, h2) r (zz_walk_zero n m2 (0, zz_in as (P.2.2 m2), [], h) (.inr (q, v, h2)) hZ hc) hw
          · cases hw
        · cases hw
