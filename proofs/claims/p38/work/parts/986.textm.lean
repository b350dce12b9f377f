/-! A TEXT: the model's side -/
theorem tm_inc (g : aa_G) (p q : Nat) (z : Int32) : zz_w (tm_at g p z) 540 5 (Int32.ofNat q) = tm_at g q z := tm_over5 g p z _
theorem tm_comm (g : aa_G) (p : Nat) (z : Int32) {k j : Nat} {v : Int32} (h : k ≠ 540) : zz_w (tm_at g p z) k j v = tm_at (zz_w g k j v) p z := by
  unfold tm_at
  rw [zz_w_comm _ (k := 540) (j := 7) (a := k) (b := j) _ _ (fun e => h e.1), zz_w_comm g (k := 540) (j := 5) (a := k) (b := j) _ _ (fun e => h e.1)]
/-- the model's towns, in row 0 -/
def mv0t (g : aa_G) (t : Nat) (o : Int32) (c : Nat) (f : Nat → Nat → Int32) : Prop := g 541 (3 + 50 * t) = o ∧ g 541 (3 + 50 * t + 1) = Int32.ofNat c ∧ c ≤ 12 ∧ ∀ i, i < c → g 541 (5 + 50 * t + 4 * i) = f i 0 ∧ g 541 (5 + 50 * t + 4 * i + 1) = f i 1 ∧ g 541 (5 + 50 * t + 4 * i + 2) = f i 2 ∧ g 541 (5 + 50 * t + 4 * i + 3) = f i 3
def mv0 (g : aa_G) (A : sp_A) : Prop := g 541 0 = Int32.ofNat A.1.1 ∧ A.1.1 ≤ 4 ∧ ∀ t, t < A.1.1 → mv0t g t (A.1.2 t) (A.2.1 t) (A.2.2 t)
theorem mv0_of {g g' : aa_G} {A : sp_A} (h : mv0 g A) (hf : ∀ j, j < 203 → g' 541 j = g 541 j) : mv0 g' A := by
  obtain ⟨h1, h2, h3⟩ := h
  refine ⟨(hf 0 (by omega)).trans h1, h2, fun t ht => ?_⟩
  obtain ⟨k1, k2, k3, k4⟩ := h3 t ht
  refine ⟨(hf _ (by omega)).trans k1, (hf _ (by omega)).trans k2, k3, fun i hi => ?_⟩
  obtain ⟨m1, m2, m3, m4⟩ := k4 i hi
  exact ⟨(hf _ (by omega)).trans m1, (hf _ (by omega)).trans m2, (hf _ (by omega)).trans m3, (hf _ (by omega)).trans m4⟩
/-- of the towns of row 0 alone has anything changed -/
def mt_fr (g g' : aa_G) : Prop := ∀ k j, ¬ (k = 541 ∧ (j = 0 ∨ (3 ≤ j ∧ j < 203))) → g' k j = g k j
def mt_bad (g : aa_G) (f : Nat) (g' : aa_G) : Prop := (∀ k j, ¬ (k = 541 ∧ (j = 0 ∨ (3 ≤ j ∧ j < 203))) → ¬ (k = 540 ∧ 5 ≤ j ∧ j ≤ 7) → g' k j = g k j) ∧ g' 540 6 = Int32.ofNat f ∧ ∃ T, T ≤ 4 ∧ g' 541 0 = Int32.ofNat T
theorem mt_fr.rf {g : aa_G} : mt_fr g g := fun _ _ _ => rfl
theorem mt_fr.tr {g g1 g2 : aa_G} (h1 : mt_fr g g1) (h2 : mt_fr g1 g2) : mt_fr g g2 := fun k j a => (h2 k j a).trans (h1 k j a)
theorem mt_fr.bad {g g1 g2 : aa_G} {f T : Nat} (h1 : mt_fr g g1) (hT : T ≤ 4) (hT2 : g1 541 0 = Int32.ofNat T) (h2 : tm_bad g1 f g2) : mt_bad g f g2 := ⟨fun k j a b => (h2.1 k j b).trans (h1 k j a), h2.2, T, hT, (h2.1 541 0 (by omega)).trans hT2⟩
theorem mt_fr.bad2 {g g1 g2 : aa_G} {f : Nat} (h1 : mt_fr g g1) (h2 : mt_bad g1 f g2) : mt_bad g f g2 := ⟨fun k j a b => (h2.1 k j a b).trans (h1 k j a), h2.2⟩
theorem mt_fr.w {g : aa_G} {j : Nat} {v : Int32} (h : j = 0 ∨ (3 ≤ j ∧ j < 203)) : mt_fr g (zz_w g 541 j v) := fun a b e => aa_w_ne _ _ fun z => e ⟨z.1, by rw [z.2]; exact h⟩
theorem mt_ok {g g' : aa_G} {b : Nat → Int32} {n : Nat} (h : tm_ok g b n) (hf : mt_fr g g') : tm_ok g' b n := ⟨(hf 540 4 (by omega)).trans h.1, h.2.1, fun j hj => by rw [hf 543 j (by omega)]; exact h.2.2 j hj⟩
/-- a piece and its end -/
def sp_q (b : Nat → Int32) (n : Nat) (r : Nat ⊕ (Nat × sp_A)) : Nat ⊕ (Nat × sp_A) := match r with
  | .inl f => .inl f
  | .inr (q, A) => if sp_hb b n q = 59 then .inr (q + 1, A) else .inl q
def mt_res (g : aa_G) (n : Nat) (r : Nat ⊕ (Nat × sp_A)) (v : Option Value) (h : zz_H) : Prop := (∃ f, r = .inl f ∧ v = some (.int 0) ∧ ∃ g', h = aa_H g' ∧ mt_bad g f g') ∨ (∃ q A', r = .inr (q, A') ∧ q ≤ n ∧ v = some (.int 1) ∧ ∃ g' z', h = aa_H (tm_at g' q z') ∧ mt_fr g g' ∧ mv0 g' A')
/-- the piece's end is read last -/
theorem mt_end {g g1 : aa_G} {b : Nat → Int32} {n q : Nat} {z : Int32} {A : sp_A} (h : tm_ok g b n) (hf : mt_fr g g1) (hA : mv0 g1 A) (hq : q ≤ n) : zz_fin none 173 (0, zz_in [.ref 540, .int 59] (zz_nl 173), [], aa_H (tm_at g1 q z)) (mt_res g n (sp_q b n (.inr (q, A)))) := by
  refine (tm_takes (mt_ok h hf) hq (c := 59) (by decide)).mono ?_
  rintro v h' (⟨rfl, h1, h2, rfl⟩ | ⟨rfl, h1, g', rfl, h2⟩)
  · exact .inr ⟨q + 1, A, if_pos h1, h2, rfl, g1, z, rfl, hf, hA⟩
  · exact .inl ⟨q, if_neg h1, rfl, g', rfl, hf.bad hA.2.1 hA.1 h2⟩
theorem mv0_town {g : aa_G} {A : sp_A} {z : Int32} (h : mv0 g A) (h4 : A.1.1 < 4) : mv0 (zz_w (zz_w (zz_w g 541 (3 + 50 * A.1.1) z) 541 (3 + 50 * A.1.1 + 1) 0) 541 0 (Int32.ofNat (A.1.1 + 1))) (sp_town A z) := by
  obtain ⟨h1, h2, h3⟩ := h
  refine ⟨aa_w_at _ _ _ _, (show A.1.1 + 1 ≤ 4 by omega), fun t ht => ?_⟩
  have ht : t < A.1.1 + 1 := ht
  by_cases e : t = A.1.1
  · subst e
    refine ⟨?_, ?_, ?_, fun i hi => ?_⟩
    · rw [aa_w_ne _ _ (by omega), aa_w_ne _ _ (by omega), aa_w_at]
      exact (if_pos rfl).symm
    · rw [aa_w_ne _ _ (by omega), aa_w_at]
      show (0 : Int32) = Int32.ofNat (if A.1.1 = A.1.1 then 0 else A.2.1 A.1.1)
      rw [if_pos rfl]
      rfl
    · show (if A.1.1 = A.1.1 then 0 else A.2.1 A.1.1) ≤ 12
      rw [if_pos rfl]
      omega
    · have hi : i < (if A.1.1 = A.1.1 then 0 else A.2.1 A.1.1) := hi
      rw [if_pos rfl] at hi
      exact absurd hi (Nat.not_lt_zero i)
  · obtain ⟨k1, k2, k3, k4⟩ := h3 t (by omega)
    refine ⟨?_, ?_, ?_, fun i hi => ?_⟩
    · rw [aa_w_ne _ _ (by omega), aa_w_ne _ _ (by omega), aa_w_ne _ _ (by omega)]
      exact k1.trans (if_neg e).symm
    · rw [aa_w_ne _ _ (by omega), aa_w_ne _ _ (by omega), aa_w_ne _ _ (by omega)]
      show _ = Int32.ofNat (if t = A.1.1 then 0 else A.2.1 t)
      rw [if_neg e]
      exact k2
    · show (if t = A.1.1 then 0 else A.2.1 t) ≤ 12
      rw [if_neg e]
      exact k3
    · have hi : i < (if t = A.1.1 then 0 else A.2.1 t) := hi
      rw [if_neg e] at hi
      obtain ⟨m1, m2, m3, m4⟩ := k4 i hi
      refine ⟨?_, ?_, ?_, ?_⟩
      · rw [aa_w_ne _ _ (by omega), aa_w_ne _ _ (by omega), aa_w_ne _ _ (by omega)]; exact m1
      · rw [aa_w_ne _ _ (by omega), aa_w_ne _ _ (by omega), aa_w_ne _ _ (by omega)]; exact m2
      · rw [aa_w_ne _ _ (by omega), aa_w_ne _ _ (by omega), aa_w_ne _ _ (by omega)]; exact m3
      · rw [aa_w_ne _ _ (by omega), aa_w_ne _ _ (by omega), aa_w_ne _ _ (by omega)]; exact m4
theorem mv0_point {g g' : aa_G} {A : sp_A} {y d k p : Int32} (h : mv0 g A) (h0 : A.1.1 ≠ 0) (hc : A.2.1 (A.1.1 - 1) < 12)
    (e0 : g' 541 (5 + 50 * (A.1.1 - 1) + 4 * A.2.1 (A.1.1 - 1)) = y) (e1 : g' 541 (5 + 50 * (A.1.1 - 1) + 4 * A.2.1 (A.1.1 - 1) + 1) = d) (e2 : g' 541 (5 + 50 * (A.1.1 - 1) + 4 * A.2.1 (A.1.1 - 1) + 2) = k) (e3 : g' 541 (5 + 50 * (A.1.1 - 1) + 4 * A.2.1 (A.1.1 - 1) + 3) = p) (e4 : g' 541 (3 + 50 * (A.1.1 - 1) + 1) = Int32.ofNat (A.2.1 (A.1.1 - 1) + 1))
    (e5 : ∀ j, ¬ (j = 3 + 50 * (A.1.1 - 1) + 1 ∨ (5 + 50 * (A.1.1 - 1) + 4 * A.2.1 (A.1.1 - 1) ≤ j ∧ j ≤ 5 + 50 * (A.1.1 - 1) + 4 * A.2.1 (A.1.1 - 1) + 3)) → g' 541 j = g 541 j) : mv0 g' (sp_point A y d k p) := by
  obtain ⟨h1, h2, h3⟩ := h
  refine ⟨(e5 _ (by omega)).trans h1, h2, fun t ht => ?_⟩
  have ht : t < A.1.1 := ht
  obtain ⟨k1, k2, k3, k4⟩ := h3 t ht
  refine ⟨(e5 _ (by omega)).trans k1, ?_, ?_, fun i hi => ?_⟩
  · show _ = Int32.ofNat (if t = A.1.1 - 1 then A.2.1 t + 1 else A.2.1 t)
    by_cases e : t = A.1.1 - 1
    · rw [if_pos e, e]
      exact e4
    · rw [if_neg e]
      exact (e5 _ (by omega)).trans k2
  · show (if t = A.1.1 - 1 then A.2.1 t + 1 else A.2.1 t) ≤ 12
    split
    · rename_i e
      rw [e]
      omega
    · exact k3
  · have hi : i < (if t = A.1.1 - 1 then A.2.1 t + 1 else A.2.1 t) := hi
    by_cases e : t = A.1.1 - 1 ∧ i = A.2.1 (A.1.1 - 1)
    · obtain ⟨rfl, rfl⟩ := e
      have f : ∀ f, (sp_point A y d k p).2.2 (A.1.1 - 1) (A.2.1 (A.1.1 - 1)) f = sp_fld y d k p f := fun f => if_pos ⟨rfl, rfl⟩
      rw [f, f, f, f]
      exact ⟨e0, e1, e2, e3⟩
    · have hi2 : i < A.2.1 t := by
        split at hi
        · rename_i e2
          have : i ≠ A.2.1 (A.1.1 - 1) := fun z => e ⟨e2, z⟩
          rw [e2] at hi ⊢
          omega
        · exact hi
      obtain ⟨m1, m2, m3, m4⟩ := k4 i hi2
      have f : ∀ f, (sp_point A y d k p).2.2 t i f = A.2.2 t i f := fun f => if_neg e
      have ne : ∀ j, (5 + 50 * t + 4 * i ≤ j ∧ j ≤ 5 + 50 * t + 4 * i + 3) → g' 541 j = g 541 j := fun j hj => e5 j fun z => by
        have hi3 : i ≤ 11 := by omega
        rcases z with z | z
        · by_cases e2 : t = A.1.1 - 1
          · rw [← e2] at z
            omega
          · have e3 : t + 1 ≤ A.1.1 - 1 := by omega
            omega
        · by_cases e2 : t = A.1.1 - 1
          · exact e ⟨e2, by rw [e2] at hj; omega⟩
          · omega
      rw [f, f, f, f]
      exact ⟨(ne _ (by omega)).trans m1, (ne _ (by omega)).trans m2, (ne _ (by omega)).trans m3, (ne _ (by omega)).trans m4⟩
