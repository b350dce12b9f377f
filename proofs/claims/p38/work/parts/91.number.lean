/-! READING NUMBERS: readNumber -/
theorem sp_run_le (b : Nat → Int32) (n : Nat) : ∀ (k p : Nat) (z : Int32), p ≤ (sp_run b n k p z).1
  | 0, p, z => Nat.le_refl p
  | k + 1, p, z => by
    rw [sp_run]
    split
    · have := sp_run_le b n k (p + 1) (z * 10 + sp_hb b n p - 48)
      omega
    · exact Nat.le_refl p
theorem sp_dg_lt {b : Nat → Int32} {n p : Nat} (h : sp_dg (sp_hb b n p) = true) : p < n := Decidable.byContradiction fun z => by
  rw [show sp_hb b n p = -1 from if_neg z] at h
  cases h
theorem sp_run_n (b : Nat → Int32) (n : Nat) : ∀ (k p : Nat) (z : Int32), p ≤ n → (sp_run b n k p z).1 ≤ n
  | 0, p, z, h => h
  | k + 1, p, z, h => by
    rw [sp_run]
    split
    · rename_i hd
      exact sp_run_n b n k (p + 1) _ (sp_dg_lt hd)
    · exact h
theorem sp_run_k (b : Nat → Int32) (n : Nat) : ∀ (k p : Nat) (z : Int32), (sp_run b n k p z).1 ≤ p + k
  | 0, p, z => Nat.le_refl p
  | k + 1, p, z => by
    rw [sp_run]
    split
    · have := sp_run_k b n k (p + 1) (z * 10 + sp_hb b n p - 48)
      omega
    · show p ≤ _
      omega
theorem tc_loop {g : aa_G} {b : Nat → Int32} {n : Nat} (h : tc_ok g b n) {w1 w2 w3 w4 w5 : Int32} {φ : Option Value → zz_H → Prop} : ∀ (k d p : Nat) (z : Int32), d + k = 5 → zz_fin none 26 (79, [some (.ref 454), some (.int w1), some (.int w2), some (.int w3), some (.int w4), some (.int w5), some (.int (sp_run b n k p z).2), some (.int (Int32.ofNat (d + ((sp_run b n k p z).1 - p))))], [], aa_H (tc_at g b n (sp_run b n k p z).1)) φ → zz_fin none 26 (41, [some (.ref 454), some (.int w1), some (.int w2), some (.int w3), some (.int w4), some (.int w5), some (.int z), some (.int (Int32.ofNat d))], [], aa_H (tc_at g b n p)) φ := by
  intro k
  induction k with
  | zero =>
    intro d p z hk k0
    have hd : d = 5 := by omega
    subst hd
    refine zz_fin.steps (n := 2) (s' := (44, [some (.ref 454), some (.int w1), some (.int w2), some (.int w3), some (.int w4), some (.int w5), some (.int z), some (.int (Int32.ofNat 5))], [.int 5, .int (Int32.ofNat 5)], aa_H (tc_at g b n p))) rfl ?_
    refine zz_fin.ic rfl (fun c1 => ?_) (fun c1 => ?_)
    · have e : 5 + ((sp_run b n 0 p z).1 - p) = 5 := by show 5 + (p - p) = 5; omega
      rw [e] at k0
      exact k0
    · exact absurd rfl c1
  | succ k ih =>
    intro d p z hk k0
    refine zz_fin.steps (n := 2) (s' := (44, [some (.ref 454), some (.int w1), some (.int w2), some (.int w3), some (.int w4), some (.int w5), some (.int z), some (.int (Int32.ofNat d))], [.int 5, .int (Int32.ofNat d)], aa_H (tc_at g b n p))) rfl ?_
    refine zz_fin.ic rfl (fun c1 => ?_) (fun c1 => ?_)
    · have c1 : (5 : Int32).toInt ≤ (Int32.ofNat d).toInt := aa_le32.mp (of_decide_eq_true c1)
      rw [zz_ofN (by omega), show (5 : Int32).toInt = 5 from rfl] at c1
      omega
    · refine zz_fin.steps (n := 1) (s' := (48, [some (.ref 454), some (.int w1), some (.int w2), some (.int w3), some (.int w4), some (.int w5), some (.int z), some (.int (Int32.ofNat d))], [.ref 454], aa_H (tc_at g b n p))) rfl ?_
      refine zz_fin.call rfl rfl (Nat.le_of_ble_eq_true rfl) (tc_dig) ?_
      rintro v h ⟨⟨rfl, hd⟩ | ⟨rfl, hd⟩, rfl⟩
      · rw [show sp_run b n (k + 1) p z = sp_run b n k (p + 1) (z * 10 + sp_hb b n p - 48) by rw [sp_run, if_pos hd]] at k0
        refine zz_fin.if rfl (fun c => zc_no1 c) (fun c => ?_)
        refine zz_fin.steps (n := 10) (s' := (70, [some (.ref 454), some (.int w1), some (.int w2), some (.int w3), some (.int w4), some (.int w5), some (.int (((z * 10) + (sp_hb b n p)) - 48)), some (.int (Int32.ofNat d))], [.ref 454], aa_H (tc_at g b n p))) rfl ?_
        refine zz_fin.call rfl rfl (Nat.le_of_ble_eq_true rfl) (tc_step h (sp_dg_lt hd)) ?_
        rintro v h ⟨rfl, rfl⟩
        refine zz_fin.steps (n := 2) (s' := (41, [some (.ref 454), some (.int w1), some (.int w2), some (.int w3), some (.int w4), some (.int w5), some (.int (((z * 10) + (sp_hb b n p)) - 48)), some (.int ((Int32.ofNat d) + 1))], [], aa_H (tc_at g b n (p + 1)))) rfl ?_
        rw [aa_succ]
        refine ih (d + 1) (p + 1) _ (by omega) ?_
        have hle := sp_run_le b n k (p + 1) (z * 10 + sp_hb b n p - 48)
        rw [show d + 1 + ((sp_run b n k (p + 1) (z * 10 + sp_hb b n p - 48)).1 - (p + 1)) = d + ((sp_run b n k (p + 1) (z * 10 + sp_hb b n p - 48)).1 - p) by omega]
        exact k0
      · rw [show sp_run b n (k + 1) p z = (p, z) by rw [sp_run, if_neg (by rw [hd]; decide)]] at k0
        refine zz_fin.if rfl (fun c => ?_) (fun c => zc_no0 c)
        have e : d + ((p, z).1 - p) = d := by show d + (p - p) = d; omega
        rw [e] at k0
        exact k0
/-- what readNumber answers -/
def tc_res (g : aa_G) (b : Nat → Int32) (n : Nat) (r : Nat ⊕ (Nat × Int32)) (v : Option Value) (h : zz_H) : Prop := (∃ f, r = .inl f ∧ v = some (.int 0) ∧ ∃ g', h = aa_H g' ∧ tc_bad g f g') ∨ (∃ q z, r = .inr (q, z) ∧ v = some (.int 1) ∧ h = aa_H (tc_at (zz_w g 454 3 z) b n q))
theorem tc_tail {g : aa_G} {b : Nat → Int32} {n : Nat} {a p q : Nat} {lo hi z : Int32} {m : Bool} {w1 : Int32} {d : Nat} (hd : d = q - a) (hq : a ≤ q) (hn : q ≤ n) (hn5 : n ≤ 500) : zz_fin none 26 (79, [some (.ref 454), some (.int w1), some (.int lo), some (.int hi), some (.int (Int32.ofNat p)), some (.int (if m = true then 1 else 0)), some (.int z), some (.int (Int32.ofNat d))], [], aa_H (tc_at g b n q)) (tc_res g b n (if q = a ∨ sp_dg (sp_hb b n q) = true then .inl q else (if (if m = true then -z else z) < lo ∨ hi < (if m = true then -z else z) then .inl p else .inr (q, if m = true then -z else z)))) := by
  have bad : (q = a ∨ sp_dg (sp_hb b n q) = true) → ∀ v h, (v = some (Value.int 0) ∧ ∃ g', h = aa_H g' ∧ tc_bad g q g') → tc_res g b n (if q = a ∨ sp_dg (sp_hb b n q) = true then .inl q else (if (if m = true then -z else z) < lo ∨ hi < (if m = true then -z else z) then .inl p else .inr (q, if m = true then -z else z))) v h := fun hc v h hv => by
    rw [if_pos hc]
    exact .inl ⟨q, rfl, hv⟩
  refine zz_fin.steps (n := 1) (s' := (81, [some (.ref 454), some (.int w1), some (.int lo), some (.int hi), some (.int (Int32.ofNat p)), some (.int (if m = true then 1 else 0)), some (.int z), some (.int (Int32.ofNat d))], [.int (Int32.ofNat d)], aa_H (tc_at g b n q))) rfl ?_
  refine zz_fin.if rfl (fun c1 => ?_) (fun c1 => ?_)
  · have c1 : Int32.ofNat d = 0 := of_decide_eq_true c1
    have hd0 : d = 0 := by have e := zz_ofN (n := d) (by omega); rw [c1, show (0 : Int32).toInt = 0 from rfl] at e; omega
    have hc : q = a ∨ sp_dg (sp_hb b n q) = true := .inl (by omega)
    refine zz_fin.steps (n := 1) (s' := (92, [some (.ref 454), some (.int w1), some (.int lo), some (.int hi), some (.int (Int32.ofNat p)), some (.int (if m = true then 1 else 0)), some (.int z), some (.int (Int32.ofNat d))], [.ref 454], aa_H (tc_at g b n q))) rfl ?_
    refine zz_fin.call rfl rfl (Nat.le_of_ble_eq_true rfl) (tc_fail) ?_
    rintro v h ⟨rfl, g', rfl, hg⟩
    exact zz_fin.at (n := 1) rfl (bad hc _ _ ⟨rfl, g', rfl, hg⟩)
  · have c1 : Int32.ofNat d ≠ 0 := fun z => c1 (decide_eq_true z)
    have hd0 : d ≠ 0 := fun z => c1 (by rw [z]; rfl)
    refine zz_fin.steps (n := 1) (s' := (85, [some (.ref 454), some (.int w1), some (.int lo), some (.int hi), some (.int (Int32.ofNat p)), some (.int (if m = true then 1 else 0)), some (.int z), some (.int (Int32.ofNat d))], [.ref 454], aa_H (tc_at g b n q))) rfl ?_
    refine zz_fin.call rfl rfl (Nat.le_of_ble_eq_true rfl) (tc_dig) ?_
    rintro v h ⟨⟨rfl, hg⟩ | ⟨rfl, hg⟩, rfl⟩
    · have hc : q = a ∨ sp_dg (sp_hb b n q) = true := .inr hg
      refine zz_fin.if rfl (fun c => zc_no1 c) (fun c => ?_)
      refine zz_fin.steps (n := 1) (s' := (92, [some (.ref 454), some (.int w1), some (.int lo), some (.int hi), some (.int (Int32.ofNat p)), some (.int (if m = true then 1 else 0)), some (.int z), some (.int (Int32.ofNat d))], [.ref 454], aa_H (tc_at g b n q))) rfl ?_
      refine zz_fin.call rfl rfl (Nat.le_of_ble_eq_true rfl) (tc_fail) ?_
      rintro v h ⟨rfl, g', rfl, hg⟩
      exact zz_fin.at (n := 1) rfl (bad hc _ _ ⟨rfl, g', rfl, hg⟩)
    · have hc : ¬ (q = a ∨ sp_dg (sp_hb b n q) = true) := fun e => by
        rcases e with e | e
        · omega
        · rw [hg] at e; cases e
      rw [if_neg hc]
      refine zz_fin.if rfl (fun c => ?_) (fun c => zc_no0 c)
      refine zz_fin.steps (n := 2) (s' := (99, [some (.ref 454), some (.int w1), some (.int lo), some (.int hi), some (.int (Int32.ofNat p)), some (.int (if m = true then 1 else 0)), some (.int z), some (.int (Int32.ofNat d))], [.int (if m = true then 1 else 0), .ref 454], aa_H (tc_at g b n q))) rfl ?_
      have key : zz_fin none 26 (110, [some (.ref 454), some (.int w1), some (.int lo), some (.int hi), some (.int (Int32.ofNat p)), some (.int (if m = true then 1 else 0)), some (.int z), some (.int (Int32.ofNat d))], [.int (if m = true then -z else z), .ref 454], aa_H (tc_at g b n q)) (tc_res g b n (if (if m = true then -z else z) < lo ∨ hi < (if m = true then -z else z) then .inl p else .inr (q, if m = true then -z else z))) := by
        generalize (if m = true then -z else z) = y
        generalize (if m = true then (1 : Int32) else 0) = m1
        refine zz_fin.steps (n := 4) (s' := (118, [some (.ref 454), some (.int w1), some (.int lo), some (.int hi), some (.int (Int32.ofNat p)), some (.int m1), some (.int z), some (.int (Int32.ofNat d))], [.int lo, .int y], aa_H (zz_w (tc_at g b n q) 454 3 y))) rfl ?_
        refine zz_fin.ic rfl (fun c3 => ?_) (fun c3 => ?_)
        · have c3 : y < lo := of_decide_eq_true c3
          rw [if_pos (.inl c3)]
          refine zz_fin.steps (n := 4) (s' := (136, [some (.ref 454), some (.int w1), some (.int lo), some (.int hi), some (.int (Int32.ofNat p)), some (.int m1), some (.int z), some (.int (Int32.ofNat d))], [.int 0], aa_H (zz_w (zz_w (tc_at g b n q) 454 3 y) 454 4 (Int32.ofNat p)))) rfl ?_
          refine zz_fin.at (n := 1) rfl (.inl ⟨p, rfl, rfl, _, rfl, fun k j hkj => ?_, aa_w_at _ _ _ _⟩)
          rw [aa_w_ne _ _ (by omega), aa_w_ne _ _ (by omega)]
          unfold tc_at
          rw [aa_w_ne _ _ (by omega), aa_w_ne _ _ (by omega)]
        · have c3 : ¬ y < lo := fun z => c3 (decide_eq_true z)
          refine zz_fin.steps (n := 3) (s' := (126, [some (.ref 454), some (.int w1), some (.int lo), some (.int hi), some (.int (Int32.ofNat p)), some (.int m1), some (.int z), some (.int (Int32.ofNat d))], [.int hi, .int y], aa_H (zz_w (tc_at g b n q) 454 3 y))) rfl ?_
          refine zz_fin.ic rfl (fun c4 => ?_) (fun c4 => ?_)
          · have c4 : ¬ hi < y := Int32.not_lt.mpr (of_decide_eq_true c4)
            rw [if_neg fun e => e.elim c3 c4]
            refine zz_fin.steps (n := 1) (s' := (138, [some (.ref 454), some (.int w1), some (.int lo), some (.int hi), some (.int (Int32.ofNat p)), some (.int m1), some (.int z), some (.int (Int32.ofNat d))], [.int 1], aa_H (zz_w (tc_at g b n q) 454 3 y))) rfl ?_
            exact zz_fin.at (n := 1) rfl (.inr ⟨q, y, rfl, rfl, by rw [tc_num3]⟩)
          · have c4 : hi < y := Int32.not_le.mp fun z => c4 (decide_eq_true z)
            rw [if_pos (.inr c4)]
            refine zz_fin.steps (n := 4) (s' := (136, [some (.ref 454), some (.int w1), some (.int lo), some (.int hi), some (.int (Int32.ofNat p)), some (.int m1), some (.int z), some (.int (Int32.ofNat d))], [.int 0], aa_H (zz_w (zz_w (tc_at g b n q) 454 3 y) 454 4 (Int32.ofNat p)))) rfl ?_
            refine zz_fin.at (n := 1) rfl (.inl ⟨p, rfl, rfl, _, rfl, fun k j hkj => ?_, aa_w_at _ _ _ _⟩)
            rw [aa_w_ne _ _ (by omega), aa_w_ne _ _ (by omega)]
            unfold tc_at
            rw [aa_w_ne _ _ (by omega), aa_w_ne _ _ (by omega)]
      cases m with
      | true =>
        refine zz_fin.if rfl (fun c => zc_no1 c) (fun c => ?_)
        refine zz_fin.steps (n := 3) (s' := (110, [some (.ref 454), some (.int w1), some (.int lo), some (.int hi), some (.int (Int32.ofNat p)), some (.int 1), some (.int z), some (.int (Int32.ofNat d))], [.int (-z), .ref 454], aa_H (tc_at g b n q))) rfl ?_
        exact key
      | false =>
        refine zz_fin.if rfl (fun c => ?_) (fun c => zc_no0 c)
        refine zz_fin.steps (n := 1) (s' := (110, [some (.ref 454), some (.int w1), some (.int lo), some (.int hi), some (.int (Int32.ofNat p)), some (.int 0), some (.int z), some (.int (Int32.ofNat d))], [.int z, .ref 454], aa_H (tc_at g b n q))) rfl ?_
        exact key
theorem tc_num {g : aa_G} {b : Nat → Int32} {n p : Nat} (h : tc_ok g b n) (hp : p ≤ n) (neg : Bool) (lo hi : Int32) : zz_fin none 26 (0, zz_in [.ref 454, .int (if neg = true then 1 else 0), .int lo, .int hi] (zz_nl 26), [], aa_H (tc_at g b n p)) (tc_res g b n (sp_num b n neg lo hi p)) := by
  have go : ∀ (a : Nat) (m : Bool), m = sp_neg b n p neg → a = (if m = true then p + 1 else p) → a ≤ n → zz_fin none 26 (35, [some (.ref 454), some (.int (if neg = true then 1 else 0)), some (.int lo), some (.int hi), some (.int (Int32.ofNat p)), some (.int (if m = true then 1 else 0)), none, none], [], aa_H (tc_at g b n a)) (tc_res g b n (sp_num b n neg lo hi p)) := fun a m hm ha han => by
    refine zz_fin.steps (n := 4) (s' := (41, [some (.ref 454), some (.int (if neg = true then 1 else 0)), some (.int lo), some (.int hi), some (.int (Int32.ofNat p)), some (.int (if m = true then 1 else 0)), some (.int 0), some (.int (Int32.ofNat 0))], [], aa_H (tc_at g b n a))) rfl ?_
    refine tc_loop h 5 0 a 0 rfl ?_
    have e : sp_num b n neg lo hi p = (if (sp_run b n 5 a 0).1 = a ∨ sp_dg (sp_hb b n (sp_run b n 5 a 0).1) = true then .inl (sp_run b n 5 a 0).1 else (if (if m = true then -(sp_run b n 5 a 0).2 else (sp_run b n 5 a 0).2) < lo ∨ hi < (if m = true then -(sp_run b n 5 a 0).2 else (sp_run b n 5 a 0).2) then .inl p else .inr ((sp_run b n 5 a 0).1, if m = true then -(sp_run b n 5 a 0).2 else (sp_run b n 5 a 0).2))) := by
      rw [ha, hm]
      rfl
    rw [e]
    exact tc_tail (by omega) (sp_run_le b n 5 a 0) (sp_run_n b n 5 a 0 han) h.2.1
  refine zz_fin.steps (n := 4) (s' := (7, [some (.ref 454), some (.int (if neg = true then 1 else 0)), some (.int lo), some (.int hi), some (.int (Int32.ofNat p)), none, none, none], [.int (if neg = true then 1 else 0)], aa_H (tc_at g b n p))) rfl ?_
  have c0 : sp_neg b n p false = false := rfl
  cases neg with
  | false =>
    refine zz_fin.if rfl (fun c => ?_) (fun c => zc_no0 c)
    refine zz_fin.steps (n := 3) (s' := (28, [some (.ref 454), some (.int 0), some (.int lo), some (.int hi), some (.int (Int32.ofNat p)), some (.int 0), none, none], [.int 0], aa_H (tc_at g b n p))) rfl ?_
    refine zz_fin.if rfl (fun c => ?_) (fun c => zc_no0 c)
    exact go p false rfl rfl hp
  | true =>
    refine zz_fin.if rfl (fun c => zc_no1 c) (fun c => ?_)
    refine zz_fin.steps (n := 3) (s' := (16, [some (.ref 454), some (.int 1), some (.int lo), some (.int hi), some (.int (Int32.ofNat p)), none, none, none], [.int 45, .int (sp_hb b n p)], aa_H (tc_at g b n p))) rfl ?_
    refine zz_fin.ic rfl (fun c1 => ?_) (fun c1 => ?_)
    · have c1 : sp_hb b n p ≠ 45 := of_decide_eq_true c1
      refine zz_fin.steps (n := 3) (s' := (28, [some (.ref 454), some (.int 1), some (.int lo), some (.int hi), some (.int (Int32.ofNat p)), some (.int 0), none, none], [.int 0], aa_H (tc_at g b n p))) rfl ?_
      refine zz_fin.if rfl (fun c => ?_) (fun c => zc_no0 c)
      exact go p false (by unfold sp_neg; rw [decide_eq_false c1]; rfl) rfl hp
    · have c1 : sp_hb b n p = 45 := Decidable.byContradiction fun z => c1 (decide_eq_true z)
      have hpn : p < n := Decidable.byContradiction fun z => by rw [show sp_hb b n p = -1 from if_neg z] at c1; cases c1
      refine zz_fin.steps (n := 4) (s' := (28, [some (.ref 454), some (.int 1), some (.int lo), some (.int hi), some (.int (Int32.ofNat p)), some (.int 1), none, none], [.int 1], aa_H (tc_at g b n p))) rfl ?_
      refine zz_fin.if rfl (fun c => zc_no1 c) (fun c => ?_)
      refine zz_fin.steps (n := 1) (s' := (32, [some (.ref 454), some (.int 1), some (.int lo), some (.int hi), some (.int (Int32.ofNat p)), some (.int 1), none, none], [.ref 454], aa_H (tc_at g b n p))) rfl ?_
      refine zz_fin.call rfl rfl (Nat.le_of_ble_eq_true rfl) (tc_step h hpn) ?_
      rintro v h ⟨rfl, rfl⟩
      exact go (p + 1) true (by unfold sp_neg; rw [decide_eq_true c1]; rfl) rfl hpn
