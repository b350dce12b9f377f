/-! RUNS OF THE SECOND MACHINE: how they are put together -/
theorem yy_ofS {O : yy_D} {X : yy_X} {us : Nat → List Nat} {rt pc : Nat} {e : zz_I} {lv : zz_V} {st : List Value} {h : zz_H} {o : zz_O} (hs : zz_step X.1 us rt e pc lv st h = some o) : yy_step O X us rt e pc lv st h = some o := by
  unfold yy_step
  rw [hs]
theorem yy_ofN {O : yy_D} {X : yy_X} {us : Nat → List Nat} {rt pc : Nat} {e : zz_I} {lv : zz_V} {st : List Value} {h : zz_H} {o : Option zz_O} (hs : zz_step X.1 us rt e pc lv st h = none) (hm : yy_more O X rt e pc lv st h = o) : yy_step O X us rt e pc lv st h = o := by
  unfold yy_step
  rw [hs]
  exact hm
theorem yy_up {O : yy_D} {P : zz_P} {us : Nat → List Nat} {X : yy_X} : ∀ (n m : Nat) (s : zz_S) (r : zz_S ⊕ zz_R), zz_walk P us X.1 n m s = some r → yy_walk O P us X n m s = some r
  | 0, m, s, r, h => h
  | n + 1, m, (pc, lv, st, h), r, hw => by
    unfold zz_walk at hw
    unfold yy_walk
    cases hT : P.1 m pc with
    | none => rw [hT] at hw; cases hw
    | some e =>
      rw [hT] at hw
      dsimp only at hw ⊢
      cases hs : zz_step X.1 us (P.2.1 m) e pc lv st h with
      | none => rw [hs] at hw; cases hw
      | some o =>
        rw [hs] at hw
        rw [yy_ofS hs]
        cases o with
        | inl s' =>
          dsimp only at hw ⊢
          exact yy_up n m s' r hw
        | inr o =>
          cases o with
          | inl r' => exact hw
          | inr o =>
            obtain ⟨m2, as, rest⟩ := o
            dsimp only at hw ⊢
            by_cases hf : (zz_in as 0).length ≤ P.2.2 m2
            · rw [if_pos hf] at hw ⊢
              cases hc : zz_walk P us X.1 n m2 (0, zz_in as (P.2.2 m2), [], h) with
              | none => rw [hc] at hw; cases hw
              | some o2 =>
                rw [hc] at hw
                rw [yy_up n m2 _ _ hc]
                cases o2 with
                | inl s2 => cases hw
                | inr q =>
                  obtain ⟨q, v, h'⟩ := q
                  dsimp only at hw ⊢
                  exact yy_up n m _ r hw
            · rw [if_neg hf] at hw
              cases hw
def yy_then (O : yy_D) (P : zz_P) (us : Nat → List Nat) (X : yy_X) (k m : Nat) (r : zz_S ⊕ zz_R) : Option (zz_S ⊕ zz_R) := match r with
  | .inl s' => yy_walk O P us X k m s'
  | .inr q => some (.inr q)
theorem yy_walk_add {O : yy_D} {P : zz_P} {us : Nat → List Nat} {X : yy_X} : ∀ (n m : Nat) (s : zz_S) (r : zz_S ⊕ zz_R), yy_walk O P us X n m s = some r → ∀ k : Nat, yy_walk O P us X (n + k) m s = yy_then O P us X k m r
  | 0, m, s, r, h, k => by
    cases h
    rw [Nat.zero_add]
    rfl
  | n + 1, m, (pc, lv, st, h), r, hw, k => by
    rw [show n + 1 + k = (n + k) + 1 by omega]
    unfold yy_walk at hw ⊢
    cases hT : P.1 m pc with
    | none => rw [hT] at hw; cases hw
    | some e =>
      rw [hT] at hw
      dsimp only at hw ⊢
      cases hs : yy_step O X us (P.2.1 m) e pc lv st h with
      | none => rw [hs] at hw; cases hw
      | some o =>
        rw [hs] at hw
        cases o with
        | inl s' =>
          dsimp only at hw ⊢
          exact yy_walk_add n m s' r hw k
        | inr o =>
          cases o with
          | inl r' =>
            dsimp only at hw ⊢
            cases hw
            rfl
          | inr o =>
            obtain ⟨m2, as, rest⟩ := o
            dsimp only at hw ⊢
            by_cases hf : (zz_in as 0).length ≤ P.2.2 m2
            · rw [if_pos hf] at hw ⊢
              cases hc : yy_walk O P us X n m2 (0, zz_in as (P.2.2 m2), [], h) with
              | none => rw [hc] at hw; cases hw
              | some o2 =>
                rw [hc] at hw
                rw [yy_walk_add n m2 _ _ hc k]
                cases o2 with
                | inl s2 => cases hw
                | inr q =>
                  obtain ⟨q, v, h'⟩ := q
                  dsimp only at hw ⊢
                  exact yy_walk_add n m _ r hw k
            · rw [if_neg hf] at hw
              cases hw
/-- it comes to an end of which this holds -/
def yy_fin (X : yy_X) (m : Nat) (s : zz_S) (φ : Option Value → zz_H → Prop) : Prop := ∃ (n q : Nat) (v : Option Value) (h : zz_H), yy_walk yy_O zz_Q zz_us X n m s = some (.inr (q, v, h)) ∧ φ v h
section YT
variable {X : yy_X} {m m2 pc n q : Nat} {s s' s2 : zz_S} {lv : zz_V} {st as rest : List Value} {h h' : zz_H} {e : zz_I} {v : Option Value} {φ ψ : Option Value → zz_H → Prop}
theorem yy_fin.steps (w1 : yy_walk yy_O zz_Q zz_us X n m s = some (.inl s')) (k : yy_fin X m s' φ) : yy_fin X m s φ := by
  obtain ⟨n2, q, v, h, w2, p2⟩ := k
  exact ⟨n + n2, q, v, h, by rw [yy_walk_add _ _ _ _ w1]; exact w2, p2⟩
theorem yy_fin.mono (h1 : yy_fin X m s φ) (h2 : ∀ v h, φ v h → ψ v h) : yy_fin X m s ψ := by
  obtain ⟨n, q, v, h, w, p⟩ := h1
  exact ⟨n, q, v, h, w, h2 v h p⟩
theorem yy_fin.up (h1 : zz_fin X.1 m s φ) : yy_fin X m s φ := by
  obtain ⟨n, q, v, h, w, p⟩ := h1
  exact ⟨n, q, v, h, yy_up _ _ _ _ w, p⟩
theorem yy_fin.at (h1 : yy_walk yy_O zz_Q zz_us X n m s = some (.inr (q, v, h))) (p : φ v h) : yy_fin X m s φ := ⟨n, q, v, h, h1, p⟩
theorem yy_fin.step1 (hT : zz_T m pc = some e) (hs : yy_step yy_O X zz_us (zz_rt m) e pc lv st h = some (.inl s')) (k : yy_fin X m s' φ) : yy_fin X m (pc, lv, st, h) φ := by
  refine yy_fin.steps (n := 1) (s' := s') ?_ k
  rw [yy_walk]
  rw [show zz_Q.1 m pc = some e from hT]
  dsimp only
  rw [show yy_step yy_O X zz_us (zz_Q.2.1 m) e pc lv st h = some (.inl s') from hs]
  rfl
theorem yy_fin.ret (hT : zz_T m pc = some e) (hs : yy_step yy_O X zz_us (zz_rt m) e pc lv st h = some (.inr (.inl (q, v, h')))) (p : φ v h') : yy_fin X m (pc, lv, st, h) φ := by
  refine ⟨1, q, v, h', ?_, p⟩
  rw [yy_walk]
  rw [show zz_Q.1 m pc = some e from hT]
  dsimp only
  rw [show yy_step yy_O X zz_us (zz_Q.2.1 m) e pc lv st h = some (.inr (.inl (q, v, h'))) from hs]
theorem yy_callw {n1 n2 : Nat} {r : zz_S ⊕ zz_R} (hT : zz_T m pc = some e) (hs : yy_step yy_O X zz_us (zz_rt m) e pc lv st h = some (.inr (.inr (m2, as, rest)))) (hf : (zz_in as 0).length ≤ zz_nl m2) (w1 : yy_walk yy_O zz_Q zz_us X n1 m2 (0, zz_in as (zz_nl m2), [], h) = some (.inr (q, v, h'))) (w2 : yy_walk yy_O zz_Q zz_us X n2 m (pc + 3, lv, v.toList ++ rest, h') = some r) : ∃ n3, yy_walk yy_O zz_Q zz_us X (n1 + n2 + 1) m (pc, lv, st, h) = yy_walk yy_O zz_Q zz_us X (n2 + n3) m (pc + 3, lv, v.toList ++ rest, h') := by
  refine ⟨n1, ?_⟩
  have e1 : zz_Q.1 m pc = some e := hT
  have e2 : yy_step yy_O X zz_us (zz_Q.2.1 m) e pc lv st h = some (.inr (.inr (m2, as, rest))) := hs
  have e3 : (zz_in as 0).length ≤ zz_Q.2.2 m2 := hf
  have e4 : yy_walk yy_O zz_Q zz_us X (n1 + n2) m2 (0, zz_in as (zz_Q.2.2 m2), [], h) = some (.inr (q, v, h')) := yy_walk_add _ _ _ _ w1 n2
  rw [yy_walk]
  rw [e1]
  dsimp only
  rw [e2]
  dsimp only
  rw [if_pos e3, e4, Nat.add_comm n1 n2]
theorem yy_fin.call (hT : zz_T m pc = some e) (hs : yy_step yy_O X zz_us (zz_rt m) e pc lv st h = some (.inr (.inr (m2, as, rest)))) (hf : (zz_in as 0).length ≤ zz_nl m2) (kc : yy_fin X m2 (0, zz_in as (zz_nl m2), [], h) ψ) (kk : ∀ v h', ψ v h' → yy_fin X m (pc + 3, lv, v.toList ++ rest, h') φ) : yy_fin X m (pc, lv, st, h) φ := by
  obtain ⟨n1, q, v, h', w1, p1⟩ := kc
  obtain ⟨n2, q2, v2, h2, w2, p2⟩ := kk v h' p1
  obtain ⟨n3, e3⟩ := yy_callw hT hs hf w1 w2
  exact ⟨n1 + n2 + 1, q2, v2, h2, by rw [e3, yy_walk_add _ _ _ _ w2]; rfl, p2⟩
end YT
