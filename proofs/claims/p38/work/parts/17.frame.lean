/-! WHICH INTS A RUN WRITES -/
def zz_wt (e : zz_I) (st : List Value) : List (Nat × Nat) := match e with
  | (i, (x, y, _, _), _, _) => match i with
    | .putfield _ => match st with
      | .int _ :: .ref k :: _ => [(k, y)]
      | _ => []
    | .iastore => match st with
      | .int _ :: .int i :: .ref k :: _ => [(k, i.toNatClampNeg)]
      | _ => []
    | .bastore => match st with
      | .int _ :: .int i :: .ref k :: _ => [(k, i.toNatClampNeg)]
      | _ => []
    | .invokestatic _ => match st with
      | .int n :: .int dp :: .ref a :: _ => if x = 100001 then (List.range n.toNatClampNeg).map fun i => (a, dp.toNatClampNeg + i) else []
      | _ => []
    | _ => []
theorem zz_step_wt {X : zz_X} {us : Nat → List Nat} {rt pc : Nat} {q : zz_I} {lv : zz_V} {st : List Value} {h : zz_H} {s' : zz_S} (hs : zz_step X us rt q pc lv st h = some (.inl s')) {k j : Nat} (hn : (k, j) ∉ zz_wt q st) : s'.2.2.2.2.2 k j = h.2.2 k j := by
  obtain ⟨i, ⟨x, y, u, w⟩, v, sw⟩ := q
  have hw : ∀ (a i : Nat) (v : Int32), (k, j) ≠ (a, i) → zz_w h.2.2 a i v k j = h.2.2 k j := fun a i v hne => by
    by_cases hk : k = a
    · subst hk
      rw [zz_w_self]
      unfold upd
      rw [if_neg (fun e => hne (by rw [e]))]
    · rw [zz_w_other _ _ _ hk]
  cases i with
  | putfield n =>
    obtain ⟨a, r, fs, ho, ⟨b, rfl, -, -, rfl⟩ | ⟨q, q0, -, -, -, rfl⟩⟩ := zz_put_ok hs
    · exact hw _ _ _ fun e => hn (by rw [e]; exact List.mem_cons_self)
    · rfl
  | iastore =>
    obtain ⟨a, i, r, c, n, rfl, ho, -, rfl⟩ := zz_ias_ok hs
    exact hw _ _ _ fun e => hn (by rw [e]; exact List.mem_cons_self)
  | bastore =>
    obtain ⟨a, i, r, c, n, t, rfl, ho, -, ⟨-, rfl⟩ | ⟨-, rfl⟩⟩ := zz_bas_ok hs
    · exact hw _ _ _ fun e => hn (by rw [e]; exact List.mem_cons_self)
    · exact hw _ _ _ fun e => hn (by rw [e]; exact List.mem_cons_self)
  | invokestatic n =>
    simp only [zz_step] at hs
    split at hs
    · simp only [zz_cs, zz_call] at hs
      repeat' split at hs
      all_goals cases hs
    · split at hs
      · rename_i hx
        obtain ⟨n, sp, dp, r, a, d, na, nb, rfl, ha, -, -, rfl⟩ := zz_cpy_ok hs
        show zz_up h.2.2 (a + 1) _ k j = _
        by_cases hk : k = a + 1
        · subst hk
          rw [zz_up_self]
          unfold va_cpy
          rw [if_neg]
          intro hc
          refine hn ?_
          show (a + 1, j) ∈ (if x = 100001 then (List.range n.toNatClampNeg).map fun i => (a + 1, dp.toNatClampNeg + i) else [])
          rw [if_pos hx]
          exact List.mem_map.mpr ⟨j - dp.toNatClampNeg, List.mem_range.mpr (by omega), by rw [show dp.toNatClampNeg + (j - dp.toNatClampNeg) = j by omega]⟩
        · rw [zz_up_other _ _ hk]
      · split at hs
        · obtain ⟨a, d, r, -, -, rfl⟩ := zz_mm_ok hs
          rfl
        · split at hs
          · obtain ⟨a, d, r, -, -, rfl⟩ := zz_mm_ok hs
            rfl
          · split at hs
            · obtain ⟨a, r, -, -, rfl⟩ := zz_ma_ok hs
              rfl
            · cases hs
  | _ =>
    simp only [zz_step, zz_go, zz_int, zz_lng, zz_rfl, zz_is, zz_ls, zz_as, zz_i2, zz_l2, zz_if, zz_ic, zz_get, zz_ial, zz_bal, zz_aal, zz_aas, zz_len, zz_call, zz_cs, zz_cv, zz_new, zz_nar, zz_anr, zz_more] at hs
    repeat' split at hs
    all_goals first
      | (cases hs; done)
      | (cases hs; rfl)
def zz_wk (P : zz_P) (us : Nat → List Nat) (X : zz_X) : Nat → Nat → zz_S → List (Nat × Nat)
  | 0, _, _ => []
  | n + 1, m, (pc, lv, st, h) => match P.1 m pc with
    | none => []
    | some e => match zz_step X us (P.2.1 m) e pc lv st h with
      | none => []
      | some (.inl s) => zz_wt e st ++ zz_wk P us X n m s
      | some (.inr (.inl _)) => []
      | some (.inr (.inr (m', as, rest))) => match zz_walk P us X n m' (0, zz_in as (P.2.2 m'), [], h) with
        | some (.inr (_, v, h')) => zz_wk P us X n m' (0, zz_in as (P.2.2 m'), [], h) ++ zz_wk P us X n m (pc + 3, lv, v.toList ++ rest, h')
        | _ => []
theorem zz_walk_wk {P : zz_P} {us : Nat → List Nat} {X : zz_X} : ∀ (n m : Nat) (s : zz_S) (r : zz_S ⊕ zz_R), zz_walk P us X n m s = some r → ∀ k j, (k, j) ∉ zz_wk P us X n m s → (zz_rz r).2.2 k j = s.2.2.2.2.2 k j
  | 0, m, s, r, h, k, j, hn => by
    cases h
    rfl
  | n + 1, m, (pc, lv, st, h), r, hw, k, j, hn => by
    unfold zz_walk at hw
    unfold zz_wk at hn
    cases hT : P.1 m pc with
    | none => rw [hT] at hw; cases hw
    | some e =>
      rw [hT] at hw hn
      dsimp only at hw hn
      cases hs : zz_step X us (P.2.1 m) e pc lv st h with
      | none => rw [hs] at hw; cases hw
      | some o =>
        rw [hs] at hw hn
        cases o with
        | inl s' =>
          dsimp only at hw hn
          rw [List.mem_append] at hn
          rw [zz_walk_wk n m s' r hw k j fun q => hn (Or.inr q)]
          exact zz_step_wt hs fun q => hn (Or.inl q)
        | inr o =>
          cases o with
          | inl r' =>
            cases hw
            have h1 := zz_step_end hs
            show r'.2.2.2.2 k j = h.2.2 k j
            rw [h1.2.1]
          | inr o =>
            obtain ⟨m2, as, rest⟩ := o
            dsimp only at hw hn
            by_cases hf : (zz_in as 0).length ≤ P.2.2 m2
            · rw [if_pos hf] at hw
              cases hc : zz_walk P us X n m2 (0, zz_in as (P.2.2 m2), [], h) with
              | none => rw [hc] at hw; cases hw
              | some o2 =>
                rw [hc] at hw hn
                cases o2 with
                | inl s2 => cases hw
                | inr q =>
                  obtain ⟨q, v, h'⟩ := q
                  dsimp only at hw hn
                  rw [List.mem_append] at hn
                  rw [zz_walk_wk n m _ r hw k j fun q => hn (Or.inr q)]
                  exact zz_walk_wk n m2 _ _ hc k j fun q => hn (Or.inl q)
            · rw [if_neg hf] at hw
              cases hw
/-- a few ints, 0 elsewhere -/
def zz_lk : List (Nat × Nat × Int32) → Nat → Nat → Int32
  | [], _, _ => 0
  | (a, b, v) :: r, k, j => cond (Nat.beq k a && Nat.beq j b) v (zz_lk r k j)
theorem zz_lk_none : ∀ (l : List (Nat × Nat × Int32)) (k j : Nat), (k, j) ∉ l.map (fun q => (q.1, q.2.1)) → zz_lk l k j = 0
  | [], k, j, _ => rfl
  | (a, b, v) :: r, k, j, h => by
    unfold zz_lk
    have h1 : (Nat.beq k a && Nat.beq j b) = false := by
      cases hb : (Nat.beq k a && Nat.beq j b) with
      | false => rfl
      | true =>
        rw [Bool.and_eq_true] at hb
        exact absurd (by rw [Nat.eq_of_beq_eq_true hb.1, Nat.eq_of_beq_eq_true hb.2]; exact List.mem_cons_self) h
    rw [h1]
    exact zz_lk_none r k j fun q => h (List.mem_cons_of_mem _ q)
