/-! A RUN HAS ONE END; the model's deedOf with all that it says -/
theorem zz_walk_up {P : zz_P} {us : Nat → List Nat} {X : zz_X} : ∀ (n m : Nat) (s : zz_S) (r : zz_R), zz_walk P us X n m s = some (.inr r) → ∀ n', n ≤ n' → zz_walk P us X n' m s = some (.inr r)
  | 0, m, s, r, h, _, _ => by cases h
  | n + 1, m, (pc, lv, st, h0), r, h, n', hn => by
    obtain ⟨n', rfl⟩ : ∃ k, n' = k + 1 := ⟨n' - 1, by omega⟩
    rw [zz_walk] at h ⊢
    split at h
    · cases h
    · rename_i e he
      try rw [he]
      try dsimp only
      split at h
      · cases h
      · rename_i s1 hs
        try rw [hs]
        exact zz_walk_up n m s1 r h n' (by omega)
      · rename_i r1 hs
        try rw [hs]
        exact h
      · rename_i m2 as rest hs
        try rw [hs]
        try dsimp only
        split at h
        · rename_i hf
          try rw [if_pos hf]
          split at h
          · rename_i q v h1 hc
            rw [zz_walk_up n m2 _ _ hc n' (by omega)]
            exact zz_walk_up n m _ r h n' (by omega)
          · cases h
        · cases h
theorem zz_fin.and {X : zz_X} {m : Nat} {s : zz_S} {φ ψ : Option Value → zz_H → Prop} (h1 : zz_fin X m s φ) (h2 : zz_fin X m s ψ) : zz_fin X m s (fun v h => φ v h ∧ ψ v h) := by
  obtain ⟨n1, q1, v1, t1, w1, p1⟩ := h1
  obtain ⟨n2, q2, v2, t2, w2, p2⟩ := h2
  have e1 := zz_walk_up _ _ _ _ w1 (n1 + n2) (by omega)
  have e2 := zz_walk_up _ _ _ _ w2 (n1 + n2) (by omega)
  rw [e1] at e2
  have e3 := Sum.inr.inj (Option.some.inj e2)
  have ev : v1 = v2 := congrArg (fun r : zz_R => r.2.1) e3
  have et : t1 = t2 := congrArg (fun r : zz_R => r.2.2) e3
  subst ev
  subst et
  exact ⟨n1, q1, v1, t1, w1, p1, p2⟩
/-- a row comes to the model's deeds -/
def md_push (g g' : aa_G) (row c : Nat) : Prop := g' 540 1 = Int32.ofNat (min (c + 1) 12) ∧ (∀ q, q < 399 → g' 541 (399 * (3 + min c 11) + q) = g 541 (399 * row + q)) ∧ (∀ i q, q < 399 → i < min c 11 → g' 541 (399 * (3 + i) + q) = g 541 (399 * (3 + i + (if c = 12 then 1 else 0)) + q)) ∧ ∀ k j, ¬ (k = 541 ∧ 1197 ≤ j ∧ j < 5985) → ¬ (k = 540 ∧ j = 1) → g' k j = g k j
theorem md_tail {row : Nat} (hrow : row = 0 ∨ row = 15) {g : aa_G} {c : Nat} (hc : g 540 1 = Int32.ofNat c) (h11 : c ≤ 11) (x : Option Value) : zz_fin none 157 (45, [some (.ref 540), some (.int (Int32.ofNat row)), x], [], aa_H g) (fun v h => v = none ∧ ∃ g', h = aa_H g' ∧ md_push g g' row c) := by
  refine zz_fin.steps (n := 5) (s' := (52, [some (.ref 540), some (.int (Int32.ofNat row)), x], [.int (g 540 1), .int (Int32.ofNat 3), .int (Int32.ofNat row), .ref 540], aa_H g)) rfl ?_
  rw [hc]
  refine zz_fin.steps (n := 1) (s' := (53, [some (.ref 540), some (.int (Int32.ofNat row)), x], [.int (Int32.ofNat 3 + Int32.ofNat c), .int (Int32.ofNat row), .ref 540], aa_H g)) rfl ?_
  rw [show Int32.ofNat 3 + Int32.ofNat c = Int32.ofNat (3 + c) from (Int32.ofNat_add 3 c).symm]
  refine zz_fin.call rfl rfl (Nat.le_of_ble_eq_true rfl) (row_copy row (3 + c) (by omega) (by omega) (by omega) g) ?_
  rintro v h ⟨rfl, g1, rfl, k1, k2⟩
  have hc1 : g1 540 1 = Int32.ofNat c := (k2 540 1 (by omega)).trans hc
  refine zz_fin.steps (n := 4) (s' := (62, [some (.ref 540), some (.int (Int32.ofNat row)), x], [.int 1, .int (g1 540 1), .ref 540], aa_H g1)) rfl ?_
  rw [hc1]
  refine zz_fin.steps (n := 1) (s' := (63, [some (.ref 540), some (.int (Int32.ofNat row)), x], [.int (Int32.ofNat c + 1), .ref 540], aa_H g1)) rfl ?_
  rw [aa_succ]
  refine zz_fin.at (n := 2) rfl ⟨rfl, zz_w g1 540 1 (Int32.ofNat (c + 1)), rfl, ?_, fun q hq => ?_, fun i q hq hi => ?_, fun k j h1 h2 => ?_⟩
  · rw [aa_w_at, show min (c + 1) 12 = c + 1 by omega]
  · rw [aa_w_ne _ _ (by omega), show min c 11 = c by omega]
    exact k1 q hq
  · rw [aa_w_ne _ _ (by omega), if_neg (by omega)]
    have hi : i < c := by omega
    exact k2 541 _ (by omega)
  · rw [aa_w_ne _ _ (by omega)]
    exact k2 k j (by omega)
/-- the rows have gone down, so many of them -/
def md_sh (g g' : aa_G) (k : Nat) : Prop := (∀ i q, q < 399 → i + 1 < k → g' 541 (399 * (3 + i) + q) = g 541 (399 * (4 + i) + q)) ∧ ∀ a j, ¬ (a = 541 ∧ 1197 ≤ j ∧ j < 399 * (2 + k)) → g' a j = g a j
theorem md_loop {row : Nat} {φ : Option Value → zz_H → Prop} {g0 : aa_G} (n : Nat) : ∀ (k : Nat), n + k = 12 → 1 ≤ k → ∀ g, md_sh g0 g k → (∀ g, md_sh g0 g 12 → ∀ x, zz_fin none 157 (35, [some (.ref 540), some (.int (Int32.ofNat row)), x], [], aa_H g) φ) → zz_fin none 157 (11, [some (.ref 540), some (.int (Int32.ofNat row)), some (.int (Int32.ofNat k))], [], aa_H g) φ := by
  induction n with
  | zero =>
    intro k hk h1 g hs k0
    have hk : k = 12 := by omega
    subst hk
    refine zz_fin.steps (n := 2) (s' := (14, [some (.ref 540), some (.int (Int32.ofNat row)), some (.int (Int32.ofNat 12))], [.int 12, .int (Int32.ofNat 12)], aa_H g)) rfl ?_
    refine zz_fin.ic rfl (fun cz => ?_) (fun cz => absurd rfl cz)
    exact k0 g hs _
  | succ n ih =>
    intro k hk h1 g hs k0
    refine zz_fin.steps (n := 2) (s' := (14, [some (.ref 540), some (.int (Int32.ofNat row)), some (.int (Int32.ofNat k))], [.int 12, .int (Int32.ofNat k)], aa_H g)) rfl ?_
    refine zz_fin.ic rfl (fun cz => ?_) (fun cz => ?_)
    · have cz : (12 : Int32).toInt ≤ (Int32.ofNat k).toInt := aa_le32.mp (of_decide_eq_true cz)
      rw [zz_ofN (by omega), show (12 : Int32).toInt = 12 from rfl] at cz
      omega
    · refine zz_fin.steps (n := 9) (s' := (26, [some (.ref 540), some (.int (Int32.ofNat row)), some (.int (Int32.ofNat k))], [.int (Int32.ofNat 3 + Int32.ofNat k - 1), .int (Int32.ofNat 3 + Int32.ofNat k), .ref 540], aa_H g)) rfl ?_
      rw [show Int32.ofNat 3 + Int32.ofNat k = Int32.ofNat (3 + k) from (Int32.ofNat_add 3 k).symm, aa_pred (by omega) (by omega)]
      refine zz_fin.call rfl rfl (Nat.le_of_ble_eq_true rfl) (row_copy (3 + k) (3 + k - 1) (by omega) (by omega) (by omega) g) ?_
      rintro v h ⟨rfl, g1, rfl, k1, k2⟩
      refine zz_fin.steps (n := 2) (s' := (11, [some (.ref 540), some (.int (Int32.ofNat row)), some (.int (Int32.ofNat k + 1))], [], aa_H g1)) rfl ?_
      rw [aa_succ]
      refine ih (k + 1) (by omega) (by omega) g1 ⟨fun i q hq hi => ?_, fun a j haj => ?_⟩ k0
      · by_cases e : i + 1 = k
        · rw [show 399 * (3 + i) + q = 399 * (3 + k - 1) + q by omega, k1 q hq, hs.2 _ _ (by omega), show 399 * (4 + i) + q = 399 * (3 + k) + q by omega]
        · rw [k2 541 _ (by omega)]
          exact hs.1 i q hq (by omega)
      · rw [k2 a j (by omega)]
        exact hs.2 a j (by omega)
theorem md_deed {row : Nat} (hrow : row = 0 ∨ row = 15) {g : aa_G} {c : Nat} (hc : g 540 1 = Int32.ofNat c) (h12 : c ≤ 12) : zz_fin none 157 (0, zz_in [.ref 540, .int (Int32.ofNat row)] (zz_nl 157), [], aa_H g) (fun v h => v = none ∧ ∃ g', h = aa_H g' ∧ md_push g g' row c) := by
  refine zz_fin.steps (n := 3) (s' := (6, [some (.ref 540), some (.int (Int32.ofNat row)), none], [.int 12, .int (g 540 1)], aa_H g)) rfl ?_
  rw [hc]
  refine zz_fin.ic rfl (fun cz => ?_) (fun cz => ?_)
  · have cz : Int32.ofNat c ≠ 12 := of_decide_eq_true cz
    have hne : c ≠ 12 := fun e => cz (by rw [e]; rfl)
    exact md_tail hrow hc (by omega) _
  · have cz : Int32.ofNat c = 12 := Decidable.byContradiction fun z => cz (decide_eq_true z)
    have h12 : c = 12 := by
      have e := zz_ofN (n := c) (by omega)
      rw [cz, show (12 : Int32).toInt = 12 from rfl] at e
      omega
    subst h12
    refine zz_fin.steps (n := 2) (s' := (11, [some (.ref 540), some (.int (Int32.ofNat row)), some (.int (Int32.ofNat 1))], [], aa_H g)) rfl ?_
    refine md_loop 11 1 rfl (Nat.le_refl 1) g ⟨fun i q _ hi => absurd hi (by omega), fun _ _ _ => rfl⟩ fun g1 hs x => ?_
    have hc1 : g1 540 1 = Int32.ofNat 12 := (hs.2 540 1 (by omega)).trans hc
    refine zz_fin.steps (n := 4) (s' := (41, [some (.ref 540), some (.int (Int32.ofNat row)), x], [.int 1, .int (g1 540 1), .ref 540], aa_H g1)) rfl ?_
    rw [hc1]
    refine zz_fin.steps (n := 2) (s' := (45, [some (.ref 540), some (.int (Int32.ofNat row)), x], [], aa_H (zz_w g1 540 1 (Int32.ofNat 12 - 1)))) rfl ?_
    refine (md_tail hrow (g := zz_w g1 540 1 (Int32.ofNat 12 - 1)) (c := 11) (aa_w_at _ _ _ _) (by omega) x).mono ?_
    rintro v h ⟨rfl, g', rfl, p1, p2, p3, p4⟩
    refine ⟨rfl, g', rfl, p1, fun q hq => ?_, fun i q hq hi => ?_, fun k j h1 h2 => ?_⟩
    · have := p2 q hq
      rw [aa_w_ne _ _ (by omega)] at this
      refine this.trans (hs.2 541 _ ?_)
      rcases hrow with rfl | rfl <;> omega
    · have := p3 i q hq hi
      rw [aa_w_ne _ _ (by omega), if_neg (by decide)] at this
      rw [if_pos rfl]
      refine this.trans ?_
      have hi : i < 11 := hi
      have e := hs.1 i q hq (by omega)
      rw [show 399 * (3 + i + 0) + q = 399 * (3 + i) + q by omega, show 399 * (3 + i + 1) + q = 399 * (4 + i) + q by omega]
      exact e
    · rw [p4 k j h1 h2, aa_w_ne _ _ (by omega)]
      exact hs.2 k j (by omega)
