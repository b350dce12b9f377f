/-! RUNS: how they are put together -/
def zz_then (P : zz_P) (us : Nat → List Nat) (X : zz_X) (k m : Nat) (r : zz_S ⊕ zz_R) : Option (zz_S ⊕ zz_R) := match r with
  | .inl s' => zz_walk P us X k m s'
  | .inr q => some (.inr q)
theorem zz_walk_add {P : zz_P} {us : Nat → List Nat} {X : zz_X} : ∀ (n m : Nat) (s : zz_S) (r : zz_S ⊕ zz_R), zz_walk P us X n m s = some r → ∀ k : Nat, zz_walk P us X (n + k) m s = zz_then P us X k m r
  | 0, m, s, r, h, k => by
    cases h
    rw [Nat.zero_add]
    rfl
  | n + 1, m, (pc, lv, st, h), r, hw, k => by
    rw [show n + 1 + k = (n + k) + 1 by omega]
    unfold zz_walk at hw ⊢
    cases hT : P.1 m pc with
    | none => rw [hT] at hw; cases hw
    | some e =>
      rw [hT] at hw
      dsimp only at hw ⊢
      cases hs : zz_step X us (P.2.1 m) e pc lv st h with
      | none => rw [hs] at hw; cases hw
      | some o =>
        rw [hs] at hw
        cases o with
        | inl s' =>
          dsimp only at hw ⊢
          exact zz_walk_add n m s' r hw k
        | inr o =>
          cases o with
          | inl r' =>
            dsimp only at hw ⊢
            cases hw
            rfl
          | inr o =>
            obtain ⟨m2, as, rest⟩ := o
            dsimp only at hw ⊢
            by_cases hf : (zz_in as 0).length ≤ P.2.2 m2
            · rw [if_pos hf] at hw ⊢
              cases hc : zz_walk P us X n m2 (0, zz_in as (P.2.2 m2), [], h) with
              | none => rw [hc] at hw; cases hw
              | some o2 =>
                rw [hc] at hw
                rw [zz_walk_add n m2 _ _ hc k]
                cases o2 with
                | inl s2 => cases hw
                | inr q =>
                  obtain ⟨q, v, h'⟩ := q
                  dsimp only at hw ⊢
                  exact zz_walk_add n m _ r hw k
            · rw [if_neg hf] at hw
              cases hw
theorem zz_step_X {X : zz_X} {us : Nat → List Nat} {rt pc : Nat} {q : zz_I} {lv : zz_V} {st : List Value} {h : zz_H} {o : zz_O} (hs : zz_step none us rt q pc lv st h = some o) : zz_step X us rt q pc lv st h = some o := by
  obtain ⟨i, ⟨x, y, u, w⟩, v, sw⟩ := q
  cases i with
  | iaload =>
    show zz_ial X pc lv st h = some o
    have hs : zz_ial none pc lv st h = some o := hs
    unfold zz_ial at hs ⊢
    split at hs
    · split at hs
      · cases hs
      · exact hs
    · cases hs
  | arraylength =>
    show zz_len X pc lv st h = some o
    have hs : zz_len none pc lv st h = some o := hs
    unfold zz_len at hs ⊢
    split at hs
    · split at hs
      · cases hs
      · exact hs
    · cases hs
  | _ => exact hs
theorem zz_walk_X {P : zz_P} {us : Nat → List Nat} {X : zz_X} : ∀ (n m : Nat) (s : zz_S) (r : zz_S ⊕ zz_R), zz_walk P us none n m s = some r → zz_walk P us X n m s = some r
  | 0, m, s, r, h => h
  | n + 1, m, (pc, lv, st, h), r, hw => by
    unfold zz_walk at hw ⊢
    cases hT : P.1 m pc with
    | none => rw [hT] at hw; cases hw
    | some e =>
      rw [hT] at hw
      dsimp only at hw ⊢
      cases hs : zz_step none us (P.2.1 m) e pc lv st h with
      | none => rw [hs] at hw; cases hw
      | some o =>
        rw [hs] at hw
        rw [zz_step_X hs]
        cases o with
        | inl s' =>
          dsimp only at hw ⊢
          exact zz_walk_X n m s' r hw
        | inr o =>
          cases o with
          | inl r' => exact hw
          | inr o =>
            obtain ⟨m2, as, rest⟩ := o
            dsimp only at hw ⊢
            by_cases hf : (zz_in as 0).length ≤ P.2.2 m2
            · rw [if_pos hf] at hw ⊢
              cases hc : zz_walk P us none n m2 (0, zz_in as (P.2.2 m2), [], h) with
              | none => rw [hc] at hw; cases hw
              | some o2 =>
                rw [hc] at hw
                rw [zz_walk_X n m2 _ _ hc]
                cases o2 with
                | inl s2 => cases hw
                | inr q =>
                  obtain ⟨q, v, h'⟩ := q
                  dsimp only at hw ⊢
                  exact zz_walk_X n m _ r hw
            · rw [if_neg hf] at hw
              cases hw
/-- it comes to an end of which this holds -/
def zz_fin (X : zz_X) (m : Nat) (s : zz_S) (φ : Option Value → zz_H → Prop) : Prop := ∃ (n q : Nat) (v : Option Value) (h : zz_H), zz_walk zz_Q zz_us X n m s = some (.inr (q, v, h)) ∧ φ v h
section ZT
variable {X : zz_X} {m m2 pc n q : Nat} {s s' s2 : zz_S} {lv : zz_V} {st as rest : List Value} {h h' : zz_H} {e : zz_I} {v : Option Value} {φ ψ : Option Value → zz_H → Prop}
theorem zz_fin.steps (w1 : zz_walk zz_Q zz_us X n m s = some (.inl s')) (k : zz_fin X m s' φ) : zz_fin X m s φ := by
  obtain ⟨n2, q, v, h, w2, p2⟩ := k
  exact ⟨n + n2, q, v, h, by rw [zz_walk_add _ _ _ _ w1]; exact w2, p2⟩
theorem zz_fin.mono (h1 : zz_fin X m s φ) (h2 : ∀ v h, φ v h → ψ v h) : zz_fin X m s ψ := by
  obtain ⟨n, q, v, h, w, p⟩ := h1
  exact ⟨n, q, v, h, w, h2 v h p⟩
theorem zz_finX (h1 : zz_fin none m s φ) : zz_fin X m s φ := by
  obtain ⟨n, q, v, h, w, p⟩ := h1
  exact ⟨n, q, v, h, zz_walk_X _ _ _ _ w, p⟩
theorem zz_fin.at (h1 : zz_walk zz_Q zz_us X n m s = some (.inr (q, v, h))) (p : φ v h) : zz_fin X m s φ := ⟨n, q, v, h, h1, p⟩
theorem zz_callw {n1 n2 : Nat} {r : zz_S ⊕ zz_R} (hT : zz_T m pc = some e) (hs : zz_step X zz_us (zz_rt m) e pc lv st h = some (.inr (.inr (m2, as, rest)))) (hf : (zz_in as 0).length ≤ zz_nl m2) (w1 : zz_walk zz_Q zz_us X n1 m2 (0, zz_in as (zz_nl m2), [], h) = some (.inr (q, v, h'))) (w2 : zz_walk zz_Q zz_us X n2 m (pc + 3, lv, v.toList ++ rest, h') = some r) : ∃ n3, zz_walk zz_Q zz_us X (n1 + n2 + 1) m (pc, lv, st, h) = zz_walk zz_Q zz_us X (n2 + n3) m (pc + 3, lv, v.toList ++ rest, h') := by
  refine ⟨n1, ?_⟩
  have e1 : zz_Q.1 m pc = some e := hT
  have e2 : zz_step X zz_us (zz_Q.2.1 m) e pc lv st h = some (.inr (.inr (m2, as, rest))) := hs
  have e3 : (zz_in as 0).length ≤ zz_Q.2.2 m2 := hf
  have e4 : zz_walk zz_Q zz_us X (n1 + n2) m2 (0, zz_in as (zz_Q.2.2 m2), [], h) = some (.inr (q, v, h')) := zz_walk_add _ _ _ _ w1 n2
  rw [zz_walk]
  rw [e1]
  dsimp only
  rw [e2]
  dsimp only
  rw [if_pos e3, e4, Nat.add_comm n1 n2]
theorem zz_fin.call (hT : zz_T m pc = some e) (hs : zz_step X zz_us (zz_rt m) e pc lv st h = some (.inr (.inr (m2, as, rest)))) (hf : (zz_in as 0).length ≤ zz_nl m2) (kc : zz_fin X m2 (0, zz_in as (zz_nl m2), [], h) ψ) (kk : ∀ v h', ψ v h' → zz_fin X m (pc + 3, lv, v.toList ++ rest, h') φ) : zz_fin X m (pc, lv, st, h) φ := by
  obtain ⟨n1, q, v, h', w1, p1⟩ := kc
  obtain ⟨n2, q2, v2, h2, w2, p2⟩ := kk v h' p1
  obtain ⟨n3, e3⟩ := zz_callw hT hs hf w1 w2
  exact ⟨n1 + n2 + 1, q2, v2, h2, by rw [e3, zz_walk_add _ _ _ _ w2]; rfl, p2⟩
end ZT
