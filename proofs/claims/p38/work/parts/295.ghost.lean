/-! A CELL THAT IS NOT THERE: how deep the pile would stand behind the codes of the COND that is being read. It has the number 600, its group 900. -/
def aa_rst (w : Int32) (d : Int) : Int := if w.toInt < 200000 then (if d < 0 then -1 else if 43 < d then -1 else if 100004 < w.toInt then -1 else d + 1) else (if d < 2 then -1 else d - 1)
def aa_run (c : Nat → Int32) : Nat → Nat → Int → Int
  | 0, _, d => d
  | n + 1, k, d => aa_run c n (k + 1) (aa_rst (c k) d)
/-- where the codes of the BELL that is being read begin -/
def aa_beg (g : Nat → Nat → Int32) : Nat := (g 544 (7 * (g 540 10).toInt.toNat + 5)).toInt.toNat
def aa_dep (g : Nat → Nat → Int32) : Int := if (g 540 11).toInt.toNat < aa_beg g then -1 else aa_run (g 545) ((g 540 11).toInt.toNat - aa_beg g) (aa_beg g) 0
/-- cell 601: the bytes of the model's tape, 0 to 255 -/
def aa_rd (g : Nat → Nat → Int32) (k j : Nat) : Int := if Nat.beq k 600 = true then aa_dep g else if Nat.beq k 601 = true then (g 543 j).toInt % 256 else (g k j).toInt
theorem aa_rd_of {g : Nat → Nat → Int32} {k j : Nat} (h : aa_gc k ≠ 0) : aa_rd g k j = (g k j).toInt := by
  unfold aa_rd
  split
  · rename_i hk
    have e := Nat.eq_of_beq_eq_true hk
    subst e
    exact absurd rfl h
  · split
    · rename_i hk
      have e := Nat.eq_of_beq_eq_true hk
      subst e
      exact absurd rfl h
    · rfl
theorem aa_dep_eq {g g' : Nat → Nat → Int32} (h1 : g' 540 10 = g 540 10) (h2 : g' 540 11 = g 540 11) (h3 : g' 544 = g 544) (h4 : g' 545 = g 545) : aa_dep g' = aa_dep g := by
  unfold aa_dep aa_beg
  rw [h1, h2, h3, h4]
/-- a write there may change it -/
def aa_vdep (gr : Nat) (lo hi : Int) : Bool := if Nat.beq gr 35 = true then decide (lo ≤ 11 ∧ 10 ≤ hi) else Nat.beq gr 39 || Nat.beq gr 40
theorem aa_vdep_no' {k : Nat} (h : aa_vdep (aa_gc k) 0 0 = false) (h0 : aa_gi (aa_gc k) ≠ aa_gi 35) : k ≠ 540 ∧ k ≠ 544 ∧ k ≠ 545 := by
  refine ⟨?_, ?_, ?_⟩
  · rintro rfl
    exact h0 rfl
  · rintro rfl
    cases h
  · rintro rfl
    cases h
theorem aa_vdep_no {k : Nat} {j : Int} {lo hi : Int} (h : aa_vdep (aa_gc k) lo hi = false) (h1 : lo ≤ j) (h2 : j ≤ hi) : ¬ (k = 540 ∧ (j = 10 ∨ j = 11)) ∧ k ≠ 544 ∧ k ≠ 545 := by
  refine ⟨?_, ?_, ?_⟩
  · rintro ⟨rfl, hj⟩
    have h : decide (lo ≤ 11 ∧ 10 ≤ hi) = false := h
    have := of_decide_eq_false h
    omega
  · rintro rfl
    cases h
  · rintro rfl
    cases h
