/-! CALLS ON THE CLASS: the real heap holds the cells 1 to 539 of a heap that is told by its numbers alone -/
theorem zz_fin.both {X : zz_X} {m : Nat} {s : zz_S} {φ ψ : Option Value → zz_H → Prop} (a : zz_fin X m s φ) (b : zz_fin X m s ψ) : zz_fin X m s (fun v h => φ v h ∧ ψ v h) := by
  obtain ⟨n1, q1, v1, h1, w1, p1⟩ := a
  obtain ⟨n2, q2, v2, h2, w2, p2⟩ := b
  have e1 := zz_walk_add _ _ _ _ w1 n2
  have e2 := zz_walk_add _ _ _ _ w2 n1
  rw [Nat.add_comm n2 n1, e1] at e2
  have e3 : some (Sum.inr (q1, v1, h1)) = (some (Sum.inr (q2, v2, h2)) : Option (zz_S ⊕ zz_R)) := e2
  cases e3
  exact ⟨n1, q1, v1, h1, w1, p1, p2⟩
def yj_b (q : zz_L) : Bool := match q with
  | .inl _ => true
  | .inr (.inl (_, rs)) => rs.all fun x => match x with
    | some j => Nat.ble j 539
    | none => true
  | .inr (.inr (_, fs)) => fs.all fun x => match x with
    | some (some j) => Nat.ble j 539
    | _ => true
theorem yj_b_ok {q : zz_L} (h : yj_b q = true) : yj_l q := by
  unfold yj_b at h
  unfold yj_l
  split at h
  · exact trivial
  · intro x hx j e
    subst e
    exact Nat.le_of_ble_eq_true (List.all_eq_true.mp h _ hx)
  · intro x hx j e
    subst e
    exact Nat.le_of_ble_eq_true (List.all_eq_true.mp h _ hx)
set_option maxRecDepth 100000 in
theorem yj_b_all : ((List.range 540).all fun k => yj_b (zz_ly k)) = true := by decide +kernel
theorem yj_hH (g : aa_G) : yj_h (aa_H g) := ⟨Nat.le_of_ble_eq_true rfl, fun k hk => yj_b_ok (List.all_eq_true.mp yj_b_all k (List.mem_range.mpr (Nat.lt_succ_of_le hk)))⟩
def yLow (k : Nat) : Prop := k ≤ 539
def yG (h : zz_H) (g : aa_G) : Prop := h = yj_H h (aa_H g) ∧ 539 ≤ h.1.1
theorem yG.x {h h' : zz_H} {g : aa_G} {A : Nat → Prop} {a d : Nat} (G : yG h g) (x : yx A a d h h') (hA : ∀ k, k ≤ 539 → ¬ A k) : yG h' g := by
  obtain ⟨e, hl⟩ := G
  have hu := x.1.1
  refine ⟨?_, by omega⟩
  have e1 : ∀ k, k ≤ 539 → h.2.1 k = zz_ly k ∧ h.2.2 k = g k := fun k hk => by
    refine ⟨?_, ?_⟩
    · rw [e]
      exact if_pos hk
    · rw [e]
      exact if_pos hk
  refine Prod.ext rfl (Prod.ext (funext fun k => ?_) (funext fun k => ?_))
  · show h'.2.1 k = if k ≤ 539 then zz_ly k else h'.2.1 k
    by_cases hk : k ≤ 539
    · rw [if_pos hk, (x.2.2.2 k (by omega) (hA k hk)).1, (e1 k hk).1]
    · rw [if_neg hk]
  · show h'.2.2 k = if k ≤ 539 then g k else h'.2.2 k
    by_cases hk : k ≤ 539
    · rw [if_pos hk, (x.2.2.2 k (by omega) (hA k hk)).2, (e1 k hk).2]
    · rw [if_neg hk]
theorem yG.g {h : zz_H} {g g2 : aa_G} (G : yG h g) (e : ∀ k, k ≤ 539 → g2 k = g k) : yG h g2 := by
  obtain ⟨e1, hl⟩ := G
  refine ⟨e1.trans ?_, hl⟩
  refine Prod.ext rfl (Prod.ext rfl (funext fun k => ?_))
  show (if k ≤ 539 then g k else h.2.2 k) = if k ≤ 539 then g2 k else h.2.2 k
  by_cases hk : k ≤ 539
  · rw [if_pos hk, if_pos hk, e k hk]
  · rw [if_neg hk, if_neg hk]
/-- a run of the class, told on the heap of numbers, goes on the real one -/
theorem yG.run {X : yy_X} {m : Nat} {as : List Value} {h : zz_H} {g : aa_G} {φ : Option Value → aa_G → Prop} (G : yG h g) (ha : ∀ x ∈ as, yj_v x) (f : zz_fin none m (0, zz_in as (zz_nl m), [], aa_H g) (fun v h => ∃ g', h = aa_H g' ∧ φ v g')) : yy_fin X m (0, zz_in as (zz_nl m), [], h) (fun v h' => ∃ g', φ v g' ∧ yG h' g' ∧ yx yLow 0 0 h h') := by
  refine (yj_fin f (fun v h' z => ?_) ha (yj_hH g) G.2 G.1).mono fun v h' z => ?_
  · obtain ⟨g', rfl, -⟩ := z
    rfl
  · obtain ⟨h1, ⟨g', rfl, z⟩, rfl, -, -⟩ := z
    have hl := G.2
    refine ⟨g', z, ⟨?_, hl⟩, ⟨Nat.le_refl _, Nat.le_refl _⟩, ⟨Nat.le_refl _, Nat.le_refl _⟩, fun z k hk => ?_, fun k hk hA => ⟨?_, ?_⟩⟩
    · refine Prod.ext rfl (Prod.ext (funext fun k => ?_) (funext fun k => ?_))
      · show (if k ≤ 539 then zz_ly k else h.2.1 k) = if k ≤ 539 then zz_ly k else (if k ≤ 539 then zz_ly k else h.2.1 k)
        by_cases hk : k ≤ 539
        · rw [if_pos hk, if_pos hk]
        · rw [if_neg hk, if_neg hk]
      · show (if k ≤ 539 then g' k else h.2.2 k) = if k ≤ 539 then g' k else (if k ≤ 539 then g' k else h.2.2 k)
        by_cases hk : k ≤ 539
        · rw [if_pos hk, if_pos hk]
        · rw [if_neg hk, if_neg hk]
    · have hk : h.1.1 < k := hk
      show (if k ≤ 539 then g' k else h.2.2 k) = _
      rw [if_neg (by omega)]
      exact z k hk
    · show (if k ≤ 539 then zz_ly k else h.2.1 k) = _
      exact if_neg hA
    · show (if k ≤ 539 then g' k else h.2.2 k) = _
      exact if_neg hA
