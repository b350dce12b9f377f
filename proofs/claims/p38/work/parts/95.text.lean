/-! A TEXT: what both sides do; the class's side -/
/-- towns, their offsets; points, field by field (day of the year, dawn, dusk, polar) -/
abbrev sp_A : Type := (Nat × (Nat → Int32)) × ((Nat → Nat) × (Nat → Nat → Nat → Int32))
def sp_town (A : sp_A) (z : Int32) : sp_A := ((A.1.1 + 1, fun t => if t = A.1.1 then z else A.1.2 t), (fun t => if t = A.1.1 then 0 else A.2.1 t, A.2.2))
def sp_fld (y d k p : Int32) : Nat → Int32
  | 0 => y
  | 1 => d
  | 2 => k
  | _ => p
def sp_point (A : sp_A) (y d k p : Int32) : sp_A := (A.1, (fun t => if t = A.1.1 - 1 then A.2.1 t + 1 else A.2.1 t, fun t i f => if t = A.1.1 - 1 ∧ i = A.2.1 (A.1.1 - 1) then sp_fld y d k p f else A.2.2 t i f))
def sp_low (A : sp_A) : Int32 := (if A.2.1 (A.1.1 - 1) = 0 then -1 else A.2.2 (A.1.1 - 1) (A.2.1 (A.1.1 - 1) - 1) 0) + 1
/-- then, in order: a fault ends all -/
def sp_then (r : Nat ⊕ (Nat × Int32)) (k : Nat → Int32 → Nat ⊕ (Nat × sp_A)) : Nat ⊕ (Nat × sp_A) := match r with
  | .inl f => .inl f
  | .inr (q, z) => k q z
def sp_pass (b : Nat → Int32) (n : Nat) (c : Int32) (p : Nat) (k : Nat → Nat ⊕ (Nat × sp_A)) : Nat ⊕ (Nat × sp_A) := if sp_hb b n p = c then k (p + 1) else .inl p
def sp_rtown (b : Nat → Int32) (n p : Nat) (A : sp_A) : Nat ⊕ (Nat × sp_A) := if A.1.1 = 4 then .inl p else sp_then (sp_num b n true (-43200) 43200 (p + 1)) fun q z => .inr (q, sp_town A z)
def sp_hours (b : Nat → Int32) (n p : Nat) (y : Int32) (A : sp_A) : Nat ⊕ (Nat × sp_A) := sp_then (sp_num b n true 0 86399 p) fun q d => sp_pass b n 44 q fun q => sp_then (sp_num b n true (d + 1) 86399 q) fun q k => .inr (q, sp_point A y d k (-1))
def sp_kind (b : Nat → Int32) (n p : Nat) (y : Int32) (A : sp_A) : Nat ⊕ (Nat × sp_A) := sp_then (sp_num b n true 0 1 p) fun q z => .inr (q, sp_point A y (-1) (-1) z)
/-- an item without its end -/
def sp_item (b : Nat → Int32) (n p : Nat) (A : sp_A) : Nat ⊕ (Nat × sp_A) :=
  if sp_hb b n p = 116 then sp_rtown b n p A else
  if (sp_hb b n p = 112 ∨ sp_hb b n p = 120) ∧ A.1.1 ≠ 0 ∧ A.2.1 (A.1.1 - 1) ≠ 12 then sp_then (sp_num b n true (sp_low A) 359 (p + 1)) fun q y => sp_pass b n 44 q fun q => if sp_hb b n p = 112 then sp_hours b n q y A else sp_kind b n q y A
  else .inl p
/-- a class's town, a class's state -/
def cvt (g : aa_G) (T : Nat) (o : Int32) (c : Nat) (f : Nat → Nat → Int32) : Prop := g T 0 = o ∧ g T 1 = Int32.ofNat c ∧ c ≤ 12 ∧ ∀ i, i < c → g (T + 1) i = f i 0 ∧ g (T + 2) i = f i 1 ∧ g (T + 3) i = f i 2 ∧ g (T + 4) i = f i 3
def cvs (g : aa_G) (S : Nat) (A : sp_A) : Prop := g S 0 = Int32.ofNat A.1.1 ∧ A.1.1 ≤ 4 ∧ ∀ t, t < A.1.1 → cvt g (5 * t + (S + 12)) (A.1.2 t) (A.2.1 t) (A.2.2 t)
theorem cvs_of {g g' : aa_G} {S : Nat} {A : sp_A} (h : cvs g S A) (hf : ∀ k j, S ≤ k → k < S + 32 → g' k j = g k j) : cvs g' S A := by
  obtain ⟨h1, h2, h3⟩ := h
  refine ⟨(hf S 0 (Nat.le_refl _) (by omega)).trans h1, h2, fun t ht => ?_⟩
  obtain ⟨k1, k2, k3, k4⟩ := h3 t ht
  refine ⟨(hf _ _ (by omega) (by omega)).trans k1, (hf _ _ (by omega) (by omega)).trans k2, k3, fun i hi => ?_⟩
  obtain ⟨m1, m2, m3, m4⟩ := k4 i hi
  exact ⟨(hf _ _ (by omega) (by omega)).trans m1, (hf _ _ (by omega) (by omega)).trans m2, (hf _ _ (by omega) (by omega)).trans m3, (hf _ _ (by omega) (by omega)).trans m4⟩
/-- the text's reading: of the draft, and of the tape's number alone, has anything changed -/
def ct_fr (g g' : aa_G) : Prop := ∀ k j, ¬ ((46 ≤ k ∧ k ≤ 65) ∨ (k = 34 ∧ j = 0)) → ¬ (k = 454 ∧ 1 ≤ j ∧ j ≤ 3) → g' k j = g k j
def ct_bad (g : aa_G) (f : Nat) (g' : aa_G) : Prop := (∀ k j, ¬ ((46 ≤ k ∧ k ≤ 65) ∨ (k = 34 ∧ j = 0)) → ¬ (k = 454 ∧ 1 ≤ j ∧ j ≤ 4) → g' k j = g k j) ∧ g' 454 4 = Int32.ofNat f
theorem ct_fr.rf {g : aa_G} : ct_fr g g := fun _ _ _ _ => rfl
theorem ct_fr.tr {g g1 g2 : aa_G} (h1 : ct_fr g g1) (h2 : ct_fr g1 g2) : ct_fr g g2 := fun k j a b => (h2 k j a b).trans (h1 k j a b)
theorem ct_fr.bad {g g1 g2 : aa_G} {f : Nat} (h1 : ct_fr g g1) (h2 : tc_bad g1 f g2) : ct_bad g f g2 := ⟨fun k j a b => (h2.1 k j b).trans (h1 k j a fun e => b ⟨e.1, e.2.1, by omega⟩), h2.2⟩
theorem ct_fr.bad2 {g g1 g2 : aa_G} {f : Nat} (h1 : ct_fr g g1) (h2 : ct_bad g1 f g2) : ct_bad g f g2 := ⟨fun k j a b => (h2.1 k j a b).trans (h1 k j a fun e => b ⟨e.1, e.2.1, by omega⟩), h2.2⟩
theorem ct_fr.num {g : aa_G} (z : Int32) : ct_fr g (zz_w g 454 3 z) := fun k j _ b => aa_w_ne _ _ fun e => b ⟨e.1, by omega, by omega⟩
theorem ct_ok {g g' : aa_G} {b : Nat → Int32} {n : Nat} (h : tc_ok g b n) (hf : ct_fr g g') : tc_ok g' b n := ⟨(hf 454 0 (by omega) (by omega)).trans h.1, h.2.1, fun j hj => (hf 455 j (by omega) (by omega)).trans (h.2.2 j hj)⟩
theorem cvs_num {g : aa_G} {A : sp_A} {z : Int32} (h : cvs g 34 A) : cvs (zz_w g 454 3 z) 34 A := cvs_of h fun k j _ _ => aa_w_ne _ _ (by omega)
theorem cvs_at {g : aa_G} {A : sp_A} {b : Nat → Int32} {n p : Nat} (h : cvs g 34 A) : cvs (tc_at g b n p) 34 A := cvs_of h fun k j _ _ => by
  unfold tc_at
  rw [aa_w_ne _ _ (by omega), aa_w_ne _ _ (by omega)]
/-- what the reading of a piece answers -/
def ct_res (g : aa_G) (b : Nat → Int32) (n : Nat) (r : Nat ⊕ (Nat × sp_A)) (v : Option Value) (h : zz_H) : Prop := (∃ f, r = .inl f ∧ v = some (.int 0) ∧ ∃ g', h = aa_H g' ∧ ct_bad g f g') ∨ (∃ q A', r = .inr (q, A') ∧ q ≤ n ∧ v = some (.int 1) ∧ ∃ g', h = aa_H (tc_at g' b n q) ∧ ct_fr g g' ∧ cvs g' 34 A')
theorem sp_num_n {b : Nat → Int32} {n p q : Nat} {neg : Bool} {lo hi z : Int32} (h : sp_num b n neg lo hi p = .inr (q, z)) (hp : p ≤ n) : q ≤ n ∧ p < q := by
  unfold sp_num at h
  dsimp only at h
  have ha : (if sp_neg b n p neg = true then p + 1 else p) ≤ n ∧ p ≤ (if sp_neg b n p neg = true then p + 1 else p) := by
    split
    · rename_i hn
      unfold sp_neg at hn
      rw [Bool.and_eq_true, decide_eq_true_eq] at hn
      have : p < n := Decidable.byContradiction fun z => by
        have e := hn.2
        rw [show sp_hb b n p = -1 from if_neg z] at e
        cases e
      omega
    · exact ⟨hp, Nat.le_refl _⟩
  generalize (if sp_neg b n p neg = true then p + 1 else p) = a at h ha
  split at h
  · cases h
  · rename_i hc
    generalize (if sp_neg b n p neg = true then -(sp_run b n 5 a 0).2 else (sp_run b n 5 a 0).2) = v at h
    split at h
    · cases h
    · have h := Sum.inr.inj h
      have h1 : (sp_run b n 5 a 0).1 = q := congrArg Prod.fst h
      have h2 := sp_run_le b n 5 a 0
      have h3 := sp_run_n b n 5 a 0 ha.1
      have h4 : ¬ (sp_run b n 5 a 0).1 = a := fun e => hc (.inl e)
      omega
