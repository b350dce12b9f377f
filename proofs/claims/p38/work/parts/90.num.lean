/-! READING NUMBERS: what both sides do, and the class's side -/
def sp_hb (b : Nat → Int32) (n p : Nat) : Int32 := if p < n then b p else -1
def sp_dg (c : Int32) : Bool := decide (48 ≤ c) && decide (c ≤ 57)
def sp_run (b : Nat → Int32) (n : Nat) : Nat → Nat → Int32 → Nat × Int32
  | 0, p, z => (p, z)
  | k + 1, p, z => if sp_dg (sp_hb b n p) = true then sp_run b n k (p + 1) (z * 10 + sp_hb b n p - 48) else (p, z)
def sp_neg (b : Nat → Int32) (n p : Nat) (neg : Bool) : Bool := neg && decide (sp_hb b n p = 45)
/-- a number from a place on: where the fault is, or where it ends and what it is -/
def sp_num (b : Nat → Int32) (n : Nat) (neg : Bool) (lo hi : Int32) (p : Nat) : Nat ⊕ (Nat × Int32) :=
  let a := if sp_neg b n p neg = true then p + 1 else p
  let r := sp_run b n 5 a 0
  if r.1 = a ∨ sp_dg (sp_hb b n r.1) = true then .inl r.1 else
  let v := if sp_neg b n p neg = true then -r.2 else r.2
  if v < lo ∨ hi < v then .inl p else .inr (r.1, v)
theorem zz_w_if (g : aa_G) (k j : Nat) (v : Int32) (a b : Nat) : zz_w g k j v a b = if a = k ∧ b = j then v else g a b := by
  split
  · rename_i h
    obtain ⟨rfl, rfl⟩ := h
    exact aa_w_at _ _ _ _
  · rename_i h
    exact aa_w_ne _ _ h
theorem zz_w_ww (g : aa_G) (k j : Nat) (v w : Int32) : zz_w (zz_w g k j v) k j w = zz_w g k j w := by
  funext a b
  simp only [zz_w_if]
  split <;> rfl
theorem zz_w_comm (g : aa_G) {k j a b : Nat} (v w : Int32) (h : ¬ (a = k ∧ b = j)) : zz_w (zz_w g k j v) a b w = zz_w (zz_w g a b w) k j v := by
  funext c d
  simp only [zz_w_if]
  split
  · rename_i h1
    rw [if_neg fun h2 => h ⟨h1.1.symm.trans h2.1, h1.2.symm.trans h2.2⟩]
  · rfl
/-- the class's tape: its bytes -/
def tc_ok (g : aa_G) (b : Nat → Int32) (n : Nat) : Prop := g 454 0 = Int32.ofNat n ∧ n ≤ 500 ∧ ∀ j, j < n → g 455 j = b j
/-- the class's tape stands at a place -/
def tc_at (g : aa_G) (b : Nat → Int32) (n p : Nat) : aa_G := zz_w (zz_w g 454 1 (Int32.ofNat p)) 454 2 (sp_hb b n p)
/-- a fault is laid down, and of the tape alone has anything changed -/
def tc_bad (g : aa_G) (f : Nat) (g' : aa_G) : Prop := (∀ k j, ¬ (k = 454 ∧ 1 ≤ j ∧ j ≤ 4) → g' k j = g k j) ∧ g' 454 4 = Int32.ofNat f
theorem tc_over (g : aa_G) (a s a' s' : Int32) : zz_w (zz_w (zz_w (zz_w g 454 1 a) 454 2 s) 454 1 a') 454 2 s' = zz_w (zz_w g 454 1 a') 454 2 s' := by
  rw [zz_w_comm (zz_w g 454 1 a) (k := 454) (j := 2) (a := 454) (b := 1) s a' (by decide), zz_w_ww, zz_w_ww]
theorem tc_num3 (g : aa_G) (b : Nat → Int32) (n p : Nat) (z : Int32) : zz_w (tc_at g b n p) 454 3 z = tc_at (zz_w g 454 3 z) b n p := by
  unfold tc_at
  rw [zz_w_comm _ (k := 454) (j := 2) (a := 454) (b := 3) _ _ (by decide), zz_w_comm g (k := 454) (j := 1) (a := 454) (b := 3) _ _ (by decide)]
theorem tc_ok3 {g : aa_G} {b : Nat → Int32} {n : Nat} (h : tc_ok g b n) (z : Int32) : tc_ok (zz_w g 454 3 z) b n := h
theorem aa_lt32 {a b : Int32} : a < b ↔ a.toInt < b.toInt := Int32.lt_iff_toInt_lt
theorem zc_no0 {P : Prop} (c : ¬ zz_cond .eq 0 = true) : P := absurd rfl c
theorem zc_no1 {P : Prop} (c : zz_cond .eq 1 = true) : P := absurd c (by decide)
theorem aa_succ (p : Nat) : Int32.ofNat p + 1 = Int32.ofNat (p + 1) := (Int32.ofNat_add p 1).symm
theorem tc_step {g : aa_G} {b : Nat → Int32} {n p : Nat} (h : tc_ok g b n) (hp : p < n) : zz_fin none 21 (0, zz_in [.ref 454] (zz_nl 21), [], aa_H (tc_at g b n p)) (fun v h => v = none ∧ h = aa_H (tc_at g b n (p + 1))) := by
  obtain ⟨h0, hn, hb⟩ := h
  have e1 : (Int32.ofNat (p + 1)).toInt = ((p + 1 : Nat) : Int) := zz_ofN (by omega)
  have en : (Int32.ofNat n).toInt = (n : Int) := zz_ofN (by omega)
  have done : ∀ s : Int32, s = sp_hb b n (p + 1) → zz_w (zz_w (tc_at g b n p) 454 1 (Int32.ofNat (p + 1))) 454 2 s = tc_at g b n (p + 1) := fun s hs => by
    rw [hs]
    exact tc_over g _ _ _ _
  refine zz_fin.steps (n := 5) (s' := (7, [some (.ref 454)], [.int ((Int32.ofNat p) + 1), .ref 454], aa_H (tc_at g b n p))) rfl ?_
  rw [aa_succ]
  refine zz_fin.steps (n := 4) (s' := (15, [some (.ref 454)], [.int (Int32.ofNat (p + 1)), .ref 454], aa_H (zz_w (tc_at g b n p) 454 1 (Int32.ofNat (p + 1))))) rfl ?_
  refine zz_fin.if rfl (fun c1 => ?_) (fun c1 => ?_)
  · have c1 : (Int32.ofNat (p + 1)).toInt < 0 := aa_lt32.mp (of_decide_eq_true c1)
    omega
  · refine zz_fin.steps (n := 4) (s' := (26, [some (.ref 454)], [.int ((zz_w (tc_at g b n p) 454 1 (Int32.ofNat (p + 1))) 454 0), .int (Int32.ofNat (p + 1)), .ref 454], aa_H (zz_w (tc_at g b n p) 454 1 (Int32.ofNat (p + 1))))) rfl ?_
    have h0' : (zz_w (tc_at g b n p) 454 1 (Int32.ofNat (p + 1))) 454 0 = Int32.ofNat n := h0
    rw [h0']
    refine zz_fin.ic rfl (fun c2 => ?_) (fun c2 => ?_)
    · have c2 : (Int32.ofNat n).toInt ≤ (Int32.ofNat (p + 1)).toInt := aa_le32.mp (of_decide_eq_true c2)
      refine zz_fin.steps (n := 2) (s' := (55, [some (.ref 454)], [], aa_H (zz_w (zz_w (tc_at g b n p) 454 1 (Int32.ofNat (p + 1))) 454 2 (-1)))) rfl ?_
      exact zz_fin.at (n := 1) rfl ⟨rfl, by rw [done _ (if_neg (by omega)).symm]⟩
    · have c2 : ¬ (Int32.ofNat n).toInt ≤ (Int32.ofNat (p + 1)).toInt := fun z => c2 (decide_eq_true (aa_le32.mpr z))
      refine zz_fin.steps (n := 3) (s' := (36, [some (.ref 454)], [.int 500, .int (Int32.ofNat (p + 1)), .ref 454], aa_H (zz_w (tc_at g b n p) 454 1 (Int32.ofNat (p + 1))))) rfl ?_
      refine zz_fin.ic rfl (fun c3 => ?_) (fun c3 => ?_)
      · have c3 : (500 : Int32).toInt ≤ (Int32.ofNat (p + 1)).toInt := aa_le32.mp (of_decide_eq_true c3)
        have e5 : (500 : Int32).toInt = 500 := rfl
        omega
      · refine zz_fin.steps (n := 4) (s' := (47, [some (.ref 454)], [.int (Int32.ofNat (p + 1)), .ref 455, .ref 454], aa_H (zz_w (tc_at g b n p) 454 1 (Int32.ofNat (p + 1))))) rfl ?_
        refine zz_fin.ial (n := 500) rfl rfl (zz_inbN (by omega) (by omega)) ?_
        rw [zz_toN (by omega)]
        have hb1 : (zz_w (tc_at g b n p) 454 1 (Int32.ofNat (p + 1))) 455 (p + 1) = b (p + 1) := hb (p + 1) (by omega)
        have hb2 : sp_hb b n (p + 1) = b (p + 1) := if_pos (by omega)
        refine zz_fin.steps (n := 2) (s' := (55, [some (.ref 454)], [], aa_H (zz_w (zz_w (tc_at g b n p) 454 1 (Int32.ofNat (p + 1))) 454 2 ((zz_w (tc_at g b n p) 454 1 (Int32.ofNat (p + 1))) 455 (p + 1))))) rfl ?_
        exact zz_fin.at (n := 1) rfl ⟨rfl, by rw [done _ (hb1.trans hb2.symm)]⟩
theorem tc_fail {g : aa_G} {b : Nat → Int32} {n p : Nat} : zz_fin none 25 (0, zz_in [.ref 454] (zz_nl 25), [], aa_H (tc_at g b n p)) (fun v h => v = some (.int 0) ∧ ∃ g', h = aa_H g' ∧ tc_bad g p g') := by
  refine zz_fin.steps (n := 5) (s' := (9, [some (.ref 454)], [.int 0], aa_H (zz_w (tc_at g b n p) 454 4 (Int32.ofNat p)))) rfl ?_
  refine zz_fin.at (n := 1) rfl ⟨rfl, _, rfl, fun k j hkj => ?_, aa_w_at _ _ _ _⟩
  rw [aa_w_ne _ _ (by omega)]
  unfold tc_at
  rw [aa_w_ne _ _ (by omega), aa_w_ne _ _ (by omega)]
theorem tc_dig {g : aa_G} {b : Nat → Int32} {n p : Nat} : zz_fin none 27 (0, zz_in [.ref 454] (zz_nl 27), [], aa_H (tc_at g b n p)) (fun v h => ((v = some (.int 1) ∧ sp_dg (sp_hb b n p) = true) ∨ (v = some (.int 0) ∧ sp_dg (sp_hb b n p) = false)) ∧ h = aa_H (tc_at g b n p)) := by
  refine zz_fin.steps (n := 3) (s' := (6, [some (.ref 454)], [.int 48, .int (sp_hb b n p)], aa_H (tc_at g b n p))) rfl ?_
  refine zz_fin.ic rfl (fun c1 => ?_) (fun c1 => ?_)
  · have c1 : ¬ (48 : Int32) ≤ sp_hb b n p := Int32.not_le.mpr (of_decide_eq_true c1)
    refine zz_fin.steps (n := 1) (s' := (23, [some (.ref 454)], [.int 0], aa_H (tc_at g b n p))) rfl ?_
    exact zz_fin.at (n := 1) rfl ⟨.inr ⟨rfl, by unfold sp_dg; rw [decide_eq_false c1]; rfl⟩, rfl⟩
  · have c1 : (48 : Int32) ≤ sp_hb b n p := Int32.not_lt.mp fun z => c1 (decide_eq_true z)
    refine zz_fin.steps (n := 3) (s' := (15, [some (.ref 454)], [.int 57, .int (sp_hb b n p)], aa_H (tc_at g b n p))) rfl ?_
    refine zz_fin.ic rfl (fun c2 => ?_) (fun c2 => ?_)
    · have c2 : ¬ sp_hb b n p ≤ (57 : Int32) := Int32.not_le.mpr (of_decide_eq_true c2)
      refine zz_fin.steps (n := 1) (s' := (23, [some (.ref 454)], [.int 0], aa_H (tc_at g b n p))) rfl ?_
      exact zz_fin.at (n := 1) rfl ⟨.inr ⟨rfl, by unfold sp_dg; rw [decide_eq_false c2, Bool.and_false]⟩, rfl⟩
    · have c2 : sp_hb b n p ≤ (57 : Int32) := Int32.not_lt.mp fun z => c2 (decide_eq_true z)
      refine zz_fin.steps (n := 2) (s' := (23, [some (.ref 454)], [.int 1], aa_H (tc_at g b n p))) rfl ?_
      exact zz_fin.at (n := 1) rfl ⟨.inl ⟨rfl, by unfold sp_dg; rw [decide_eq_true c1, decide_eq_true c2]; rfl⟩, rfl⟩
theorem tc_pass {g : aa_G} {b : Nat → Int32} {n p : Nat} (h : tc_ok g b n) {c : Int32} (hc : c ≠ -1) : zz_fin none 33 (0, zz_in [.ref 454, .int c] (zz_nl 33), [], aa_H (tc_at g b n p)) (fun v h => (v = some (.int 1) ∧ sp_hb b n p = c ∧ p < n ∧ h = aa_H (tc_at g b n (p + 1))) ∨ (v = some (.int 0) ∧ sp_hb b n p ≠ c ∧ ∃ g', h = aa_H g' ∧ tc_bad g p g')) := by
  refine zz_fin.steps (n := 3) (s' := (5, [some (.ref 454), some (.int c)], [.int c, .int (sp_hb b n p)], aa_H (tc_at g b n p))) rfl ?_
  refine zz_fin.ic rfl (fun c1 => ?_) (fun c1 => ?_)
  · have c1 : sp_hb b n p = c := of_decide_eq_true c1
    have hp : p < n := Decidable.byContradiction fun z => hc (by rw [← c1]; exact if_neg z)
    refine zz_fin.steps (n := 1) (s' := (14, [some (.ref 454), some (.int c)], [.ref 454], aa_H (tc_at g b n p))) rfl ?_
    refine zz_fin.call rfl rfl (Nat.le_of_ble_eq_true rfl) (tc_step h hp) ?_
    rintro v h ⟨rfl, rfl⟩
    exact zz_fin.at (n := 2) rfl (.inl ⟨rfl, c1, hp, rfl⟩)
  · have c1 : sp_hb b n p ≠ c := fun z => c1 (decide_eq_true z)
    refine zz_fin.steps (n := 1) (s' := (9, [some (.ref 454), some (.int c)], [.ref 454], aa_H (tc_at g b n p))) rfl ?_
    refine zz_fin.call rfl rfl (Nat.le_of_ble_eq_true rfl) (tc_fail) ?_
    rintro v h ⟨rfl, g', rfl, hg⟩
    exact zz_fin.at (n := 1) rfl (.inr ⟨rfl, c1, g', rfl, hg⟩)
