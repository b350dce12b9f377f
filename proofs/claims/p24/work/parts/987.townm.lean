section
/-! keep, told apart -/
def aa_x7 : aa_K := ((143, 1, [(13, 0, 39), (5, 0, 7), (6, 0, 7), (7, 0, 7), (8, 0, 7), (9, 0, 7), (10, 0, 7), (11, 0, 39), (12, 0, 39), (15, 0, 11), (16, 0, 11), (17, 0, 11), (18, 0, 11), (22, 0, 1), (4, 0, 0), (4, 1, 1), (2, 0, 0), (2, 1, 1), (14, 0, 0), (14, 1, 1)]), (((([(-2147483648, 2147483647, 0)], []), ([], [(3, (1, [])), (1, (0, [(0, 1)]))])), [(0, 1)]), ([((([(-2147483648, 2147483647, 0)], [(-1, [(0, -1)])]), ([], [(1, (0, []))])), []), ((([(-2147483648, 2147483647, 0)], [(-2, [(0, 1)])]), ([], [(1, (0, []))])), []), ((([(-2147483648, 2147483647, 0)], [(0, [(0, 1)]), (1, [(0, -1)])]), ([], [(1, (1, []))])), [])], [])))
def aa_x8 : aa_K := ((153, 1, [(37, 0, 1), (36, 399, 1196)]), (((([(-2147483648, 2147483647, 0)], []), ([], [(3, (540, [])), (1, (0, [(0, 1)]))])), [(0, 1)]), ([((([(-2147483648, 2147483647, 0)], [(-1, [(0, -1)])]), ([], [(1, (0, []))])), []), ((([(-2147483648, 2147483647, 0)], [(-2, [(0, 1)])]), ([], [(1, (0, []))])), []), ((([(-2147483648, 2147483647, 0)], [(0, [(0, 1)]), (1, [(0, -1)])]), ([], [(1, (1, []))])), [])], [])))
set_option maxRecDepth 100000 in
theorem aa_xe7 : aa_chk (aa_x0 :: aa_p3) aa_free (fun _ _ _ _ => false) (fun _ => false) 400 aa_x7 = true := by decide +kernel
theorem aa_x7_ok {Φ : aa_G → Prop} (hG : aa_good Φ aa_free (fun _ _ _ _ => false)) : aa_met Φ aa_x7 := aa_chk_ok hG (aa_mcons (aa_met_p3 hG) (aa_chk_ok hG aa_no1 (fun _ _ q => by cases q) aa_xe0)) (fun _ _ q => by cases q) aa_xe7
theorem aa_x8_ok : aa_met aa_Phi aa_x8 := by
  intro ν0 g as h1 h2 h3 h4 h5 h6
  obtain ⟨as, rfl, h7⟩ := aa_this h4
  clear h4
  obtain ⟨w1, as, rfl, e1, h8⟩ := aa_ms_int h7
  clear h7
  have hlen : ν0.length = 1 := h1.1
  match ν0, hlen, h1, as, h8, e1 with
  | [a], _, h1, [], _, e1 =>
    have e1 : (0 : Int) + (1 * a + 0) = w1.toInt := Option.some.inj e1
    refine zz_fin.steps (n := 3) (s' := (3, [some (.ref 540), some (.int w1)], [.int 1, .int 0, .int w1], aa_H g)) rfl ?_
    by_cases c : (0 : Int32) ≤ w1 ∧ w1 ≤ 1
    · refine zz_fin.call rfl rfl (Nat.le_of_ble_eq_true rfl) (zz_within1 (.inr rfl) c) ?_
      rintro v h ⟨rfl, rfl⟩
      obtain ⟨k, hk, rfl⟩ := aa_slot c
      refine zz_fin.steps (n := 6) (s' := (16, [some (.ref 540), some (.int (Int32.ofNat k))], [.int (1 + Int32.ofNat k), .int (Int32.ofNat 0), .ref 540], aa_H g)) rfl ?_
      rw [show (1 : Int32) + Int32.ofNat k = Int32.ofNat (1 + k) from (Int32.ofNat_add 1 k).symm]
      have hp : (1 : Int) ≤ (g 541 1).toInt := (h5 541 1).1
      refine zz_fin.call rfl rfl (Nat.le_of_ble_eq_true rfl) (aa_copy (f := 0) (t := 1 + k) (by omega) (by omega) (by omega) h5 h6 hp) ?_
      rintro v h ⟨rfl, g1, rfl, hc, k1, k2⟩
      refine zz_fin.steps (n := 4) (s' := (25, [some (.ref 540), some (.int (Int32.ofNat k))], [.int 1, .int (Int32.ofNat k), .ref 542], aa_H g1)) rfl ?_
      refine zz_fin.bas1 (n := 2) rfl rfl (zz_inbN hk (by omega)) ?_
      rw [zz_toN (by omega)]
      have hp1 : 1 ≤ (g1 541 (399 * (1 + k) + 1)).toInt := by
        rw [hc.1 1 (by omega)]
        exact hp
      have b1 : aa_iv 37 k = (0, 1) := aa_flat_ok rfl k 0
      have b2 : (vp_nar .boolean 1).toInt = 1 := by decide
      refine zz_fin.at (n := 2) rfl ⟨_, rfl, aa_inv_w k1 (v := vp_nar .boolean 1) ?_ ?_, aa_Phi_kept k2 hp1, ?_, _, List.mem_cons_of_mem _ (List.mem_cons_of_mem _ List.mem_cons_self), [], h1, ?_, fun q hq => (by cases hq), Nat.one_ne_zero, _, rfl, rfl⟩
      · show (aa_iv 37 k).1 ≤ _
        rw [b1, b2]
        decide
      · show _ ≤ (aa_iv 37 k).2
        rw [b1, b2]
        decide
      · exact (aa_cp_fr hc (List.mem_cons_of_mem _ List.mem_cons_self) (by omega) (by omega)).tr (aa_fr_kept hk List.mem_cons_self)
      · have ek := zz_ofN (show k < 2147483648 by omega)
        intro f hf
        rcases List.mem_cons.mp hf with rfl | hf
        · exact ⟨_, rfl, by show 0 ≤ (0 : Int) + (1 * a + 0); omega⟩
        · rcases List.mem_cons.mp hf with rfl | hf
          · exact ⟨_, rfl, by show 0 ≤ (1 : Int) + (-1 * a + 0); omega⟩
          · cases hf
    · refine zz_fin.call rfl rfl (Nat.le_of_ble_eq_true rfl) (zz_within0 (.inr rfl) c) ?_
      rintro v h ⟨rfl, rfl⟩
      by_cases d : a < 0
      · refine zz_fin.at (n := 3) rfl ⟨g, rfl, h5, h6, aa_fr.rf, _, List.mem_cons_self, [], h1, fun f hf => ?_, fun q hq => (by cases hq), Nat.one_ne_zero, _, rfl, rfl⟩
        rcases List.mem_cons.mp hf with rfl | hf
        · exact ⟨_, rfl, by show 0 ≤ (-1 : Int) + (-1 * a + 0); omega⟩
        · cases hf
      · have d2 : 2 ≤ a := by
          by_cases z : 2 ≤ a
          · exact z
          · refine absurd ⟨aa_le32.mpr ?_, aa_le32.mpr ?_⟩ c
            · show (0 : Int) ≤ w1.toInt
              omega
            · show w1.toInt ≤ (1 : Int)
              omega
        refine zz_fin.at (n := 3) rfl ⟨g, rfl, h5, h6, aa_fr.rf, _, List.mem_cons_of_mem _ List.mem_cons_self, [], h1, fun f hf => ?_, fun q hq => (by cases hq), Nat.one_ne_zero, _, rfl, rfl⟩
        rcases List.mem_cons.mp hf with rfl | hf
        · exact ⟨_, rfl, by show 0 ≤ (-2 : Int) + (1 * a + 0); omega⟩
        · cases hf
end
section
/-! READING NUMBERS: what both sides do, and the class's side -/
def sp_hb (b : Nat → Int32) (n p : Nat) : Int32 := if p < n then b p else -1
def sp_dg (c : Int32) : Bool := decide (48 ≤ c) && decide (c ≤ 57)
def sp_run (b : Nat → Int32) (n : Nat) : Nat → Nat → Int32 → Nat × Int32
  | 0, p, z => (p, z)
  | k + 1, p, z => if sp_dg (sp_hb b n p) = true then sp_run b n k (p + 1) (z * 10 + sp_hb b n p - 48) else (p, z)
def sp_neg (b : Nat → Int32) (n p : Nat) (neg : Bool) : Bool := neg && decide (sp_hb b n p = 45)
/-- a number from a place on: where the fault is, or where it ends and what it is -/
def sp_num (b : Nat → Int32) (n : Nat) (neg : Bool) (lo hi : Int32) (p : Nat) : Nat ⊕ (Nat × Int32) :=
  let a := if sp_neg b n p neg = true then p + 1 else p
  let r := sp_run b n 5 a 0
  if r.1 = a ∨ sp_dg (sp_hb b n r.1) = true then .inl r.1 else
  let v := if sp_neg b n p neg = true then -r.2 else r.2
  if v < lo ∨ hi < v then .inl p else .inr (r.1, v)
theorem zz_w_if (g : aa_G) (k j : Nat) (v : Int32) (a b : Nat) : zz_w g k j v a b = if a = k ∧ b = j then v else g a b := by
  split
  · rename_i h
    obtain ⟨rfl, rfl⟩ := h
    exact aa_w_at _ _ _ _
  · rename_i h
    exact aa_w_ne _ _ h
theorem zz_w_ww (g : aa_G) (k j : Nat) (v w : Int32) : zz_w (zz_w g k j v) k j w = zz_w g k j w := by
  funext a b
  simp only [zz_w_if]
  split <;> rfl
theorem zz_w_comm (g : aa_G) {k j a b : Nat} (v w : Int32) (h : ¬ (a = k ∧ b = j)) : zz_w (zz_w g k j v) a b w = zz_w (zz_w g a b w) k j v := by
  funext c d
  simp only [zz_w_if]
  split
  · rename_i h1
    rw [if_neg fun h2 => h ⟨h1.1.symm.trans h2.1, h1.2.symm.trans h2.2⟩]
  · rfl
/-- the class's tape: its bytes -/
def tc_ok (g : aa_G) (b : Nat → Int32) (n : Nat) : Prop := g 454 0 = Int32.ofNat n ∧ n ≤ 500 ∧ ∀ j, j < n → g 455 j = b j
/-- the class's tape stands at a place -/
def tc_at (g : aa_G) (b : Nat → Int32) (n p : Nat) : aa_G := zz_w (zz_w g 454 1 (Int32.ofNat p)) 454 2 (sp_hb b n p)
/-- a fault is laid down, and of the tape alone has anything changed -/
def tc_bad (g : aa_G) (f : Nat) (g' : aa_G) : Prop := (∀ k j, ¬ (k = 454 ∧ 1 ≤ j ∧ j ≤ 4) → g' k j = g k j) ∧ g' 454 4 = Int32.ofNat f
theorem tc_over (g : aa_G) (a s a' s' : Int32) : zz_w (zz_w (zz_w (zz_w g 454 1 a) 454 2 s) 454 1 a') 454 2 s' = zz_w (zz_w g 454 1 a') 454 2 s' := by
  rw [zz_w_comm (zz_w g 454 1 a) (k := 454) (j := 2) (a := 454) (b := 1) s a' (by decide), zz_w_ww, zz_w_ww]
theorem tc_num3 (g : aa_G) (b : Nat → Int32) (n p : Nat) (z : Int32) : zz_w (tc_at g b n p) 454 3 z = tc_at (zz_w g 454 3 z) b n p := by
  unfold tc_at
  rw [zz_w_comm _ (k := 454) (j := 2) (a := 454) (b := 3) _ _ (by decide), zz_w_comm g (k := 454) (j := 1) (a := 454) (b := 3) _ _ (by decide)]
theorem tc_ok3 {g : aa_G} {b : Nat → Int32} {n : Nat} (h : tc_ok g b n) (z : Int32) : tc_ok (zz_w g 454 3 z) b n := h
theorem aa_lt32 {a b : Int32} : a < b ↔ a.toInt < b.toInt := Int32.lt_iff_toInt_lt
theorem zc_no0 {P : Prop} (c : ¬ zz_cond .eq 0 = true) : P := absurd rfl c
theorem zc_no1 {P : Prop} (c : zz_cond .eq 1 = true) : P := absurd c (by decide)
theorem aa_succ (p : Nat) : Int32.ofNat p + 1 = Int32.ofNat (p + 1) := (Int32.ofNat_add p 1).symm
theorem tc_step {g : aa_G} {b : Nat → Int32} {n p : Nat} (h : tc_ok g b n) (hp : p < n) : zz_fin none 21 (0, zz_in [.ref 454] (zz_nl 21), [], aa_H (tc_at g b n p)) (fun v h => v = none ∧ h = aa_H (tc_at g b n (p + 1))) := by
  obtain ⟨h0, hn, hb⟩ := h
  have e1 : (Int32.ofNat (p + 1)).toInt = ((p + 1 : Nat) : Int) := zz_ofN (by omega)
  have en : (Int32.ofNat n).toInt = (n : Int) := zz_ofN (by omega)
  have done : ∀ s : Int32, s = sp_hb b n (p + 1) → zz_w (zz_w (tc_at g b n p) 454 1 (Int32.ofNat (p + 1))) 454 2 s = tc_at g b n (p + 1) := fun s hs => by
    rw [hs]
    exact tc_over g _ _ _ _
  refine zz_fin.steps (n := 5) (s' := (7, [some (.ref 454)], [.int ((Int32.ofNat p) + 1), .ref 454], aa_H (tc_at g b n p))) rfl ?_
  rw [aa_succ]
  refine zz_fin.steps (n := 4) (s' := (15, [some (.ref 454)], [.int (Int32.ofNat (p + 1)), .ref 454], aa_H (zz_w (tc_at g b n p) 454 1 (Int32.ofNat (p + 1))))) rfl ?_
  refine zz_fin.if rfl (fun c1 => ?_) (fun c1 => ?_)
  · have c1 : (Int32.ofNat (p + 1)).toInt < 0 := aa_lt32.mp (of_decide_eq_true c1)
    omega
  · refine zz_fin.steps (n := 4) (s' := (26, [some (.ref 454)], [.int ((zz_w (tc_at g b n p) 454 1 (Int32.ofNat (p + 1))) 454 0), .int (Int32.ofNat (p + 1)), .ref 454], aa_H (zz_w (tc_at g b n p) 454 1 (Int32.ofNat (p + 1))))) rfl ?_
    have h0' : (zz_w (tc_at g b n p) 454 1 (Int32.ofNat (p + 1))) 454 0 = Int32.ofNat n := h0
    rw [h0']
    refine zz_fin.ic rfl (fun c2 => ?_) (fun c2 => ?_)
    · have c2 : (Int32.ofNat n).toInt ≤ (Int32.ofNat (p + 1)).toInt := aa_le32.mp (of_decide_eq_true c2)
      refine zz_fin.steps (n := 2) (s' := (55, [some (.ref 454)], [], aa_H (zz_w (zz_w (tc_at g b n p) 454 1 (Int32.ofNat (p + 1))) 454 2 (-1)))) rfl ?_
      exact zz_fin.at (n := 1) rfl ⟨rfl, by rw [done _ (if_neg (by omega)).symm]⟩
    · have c2 : ¬ (Int32.ofNat n).toInt ≤ (Int32.ofNat (p + 1)).toInt := fun z => c2 (decide_eq_true (aa_le32.mpr z))
      refine zz_fin.steps (n := 3) (s' := (36, [some (.ref 454)], [.int 500, .int (Int32.ofNat (p + 1)), .ref 454], aa_H (zz_w (tc_at g b n p) 454 1 (Int32.ofNat (p + 1))))) rfl ?_
      refine zz_fin.ic rfl (fun c3 => ?_) (fun c3 => ?_)
      · have c3 : (500 : Int32).toInt ≤ (Int32.ofNat (p + 1)).toInt := aa_le32.mp (of_decide_eq_true c3)
        have e5 : (500 : Int32).toInt = 500 := rfl
        omega
      · refine zz_fin.steps (n := 4) (s' := (47, [some (.ref 454)], [.int (Int32.ofNat (p + 1)), .ref 455, .ref 454], aa_H (zz_w (tc_at g b n p) 454 1 (Int32.ofNat (p + 1))))) rfl ?_
        refine zz_fin.ial (n := 500) rfl rfl (zz_inbN (by omega) (by omega)) ?_
        rw [zz_toN (by omega)]
        have hb1 : (zz_w (tc_at g b n p) 454 1 (Int32.ofNat (p + 1))) 455 (p + 1) = b (p + 1) := hb (p + 1) (by omega)
        have hb2 : sp_hb b n (p + 1) = b (p + 1) := if_pos (by omega)
        refine zz_fin.steps (n := 2) (s' := (55, [some (.ref 454)], [], aa_H (zz_w (zz_w (tc_at g b n p) 454 1 (Int32.ofNat (p + 1))) 454 2 ((zz_w (tc_at g b n p) 454 1 (Int32.ofNat (p + 1))) 455 (p + 1))))) rfl ?_
        exact zz_fin.at (n := 1) rfl ⟨rfl, by rw [done _ (hb1.trans hb2.symm)]⟩
theorem tc_fail {g : aa_G} {b : Nat → Int32} {n p : Nat} : zz_fin none 25 (0, zz_in [.ref 454] (zz_nl 25), [], aa_H (tc_at g b n p)) (fun v h => v = some (.int 0) ∧ ∃ g', h = aa_H g' ∧ tc_bad g p g') := by
  refine zz_fin.steps (n := 5) (s' := (9, [some (.ref 454)], [.int 0], aa_H (zz_w (tc_at g b n p) 454 4 (Int32.ofNat p)))) rfl ?_
  refine zz_fin.at (n := 1) rfl ⟨rfl, _, rfl, fun k j hkj => ?_, aa_w_at _ _ _ _⟩
  rw [aa_w_ne _ _ (by omega)]
  unfold tc_at
  rw [aa_w_ne _ _ (by omega), aa_w_ne _ _ (by omega)]
theorem tc_dig {g : aa_G} {b : Nat → Int32} {n p : Nat} : zz_fin none 27 (0, zz_in [.ref 454] (zz_nl 27), [], aa_H (tc_at g b n p)) (fun v h => ((v = some (.int 1) ∧ sp_dg (sp_hb b n p) = true) ∨ (v = some (.int 0) ∧ sp_dg (sp_hb b n p) = false)) ∧ h = aa_H (tc_at g b n p)) := by
  refine zz_fin.steps (n := 3) (s' := (6, [some (.ref 454)], [.int 48, .int (sp_hb b n p)], aa_H (tc_at g b n p))) rfl ?_
  refine zz_fin.ic rfl (fun c1 => ?_) (fun c1 => ?_)
  · have c1 : ¬ (48 : Int32) ≤ sp_hb b n p := Int32.not_le.mpr (of_decide_eq_true c1)
    refine zz_fin.steps (n := 1) (s' := (23, [some (.ref 454)], [.int 0], aa_H (tc_at g b n p))) rfl ?_
    exact zz_fin.at (n := 1) rfl ⟨.inr ⟨rfl, by unfold sp_dg; rw [decide_eq_false c1]; rfl⟩, rfl⟩
  · have c1 : (48 : Int32) ≤ sp_hb b n p := Int32.not_lt.mp fun z => c1 (decide_eq_true z)
    refine zz_fin.steps (n := 3) (s' := (15, [some (.ref 454)], [.int 57, .int (sp_hb b n p)], aa_H (tc_at g b n p))) rfl ?_
    refine zz_fin.ic rfl (fun c2 => ?_) (fun c2 => ?_)
    · have c2 : ¬ sp_hb b n p ≤ (57 : Int32) := Int32.not_le.mpr (of_decide_eq_true c2)
      refine zz_fin.steps (n := 1) (s' := (23, [some (.ref 454)], [.int 0], aa_H (tc_at g b n p))) rfl ?_
      exact zz_fin.at (n := 1) rfl ⟨.inr ⟨rfl, by unfold sp_dg; rw [decide_eq_false c2, Bool.and_false]⟩, rfl⟩
    · have c2 : sp_hb b n p ≤ (57 : Int32) := Int32.not_lt.mp fun z => c2 (decide_eq_true z)
      refine zz_fin.steps (n := 2) (s' := (23, [some (.ref 454)], [.int 1], aa_H (tc_at g b n p))) rfl ?_
      exact zz_fin.at (n := 1) rfl ⟨.inl ⟨rfl, by unfold sp_dg; rw [decide_eq_true c1, decide_eq_true c2]; rfl⟩, rfl⟩
theorem tc_pass {g : aa_G} {b : Nat → Int32} {n p : Nat} (h : tc_ok g b n) {c : Int32} (hc : c ≠ -1) : zz_fin none 33 (0, zz_in [.ref 454, .int c] (zz_nl 33), [], aa_H (tc_at g b n p)) (fun v h => (v = some (.int 1) ∧ sp_hb b n p = c ∧ p < n ∧ h = aa_H (tc_at g b n (p + 1))) ∨ (v = some (.int 0) ∧ sp_hb b n p ≠ c ∧ ∃ g', h = aa_H g' ∧ tc_bad g p g')) := by
  refine zz_fin.steps (n := 3) (s' := (5, [some (.ref 454), some (.int c)], [.int c, .int (sp_hb b n p)], aa_H (tc_at g b n p))) rfl ?_
  refine zz_fin.ic rfl (fun c1 => ?_) (fun c1 => ?_)
  · have c1 : sp_hb b n p = c := of_decide_eq_true c1
    have hp : p < n := Decidable.byContradiction fun z => hc (by rw [← c1]; exact if_neg z)
    refine zz_fin.steps (n := 1) (s' := (14, [some (.ref 454), some (.int c)], [.ref 454], aa_H (tc_at g b n p))) rfl ?_
    refine zz_fin.call rfl rfl (Nat.le_of_ble_eq_true rfl) (tc_step h hp) ?_
    rintro v h ⟨rfl, rfl⟩
    exact zz_fin.at (n := 2) rfl (.inl ⟨rfl, c1, hp, rfl⟩)
  · have c1 : sp_hb b n p ≠ c := fun z => c1 (decide_eq_true z)
    refine zz_fin.steps (n := 1) (s' := (9, [some (.ref 454), some (.int c)], [.ref 454], aa_H (tc_at g b n p))) rfl ?_
    refine zz_fin.call rfl rfl (Nat.le_of_ble_eq_true rfl) (tc_fail) ?_
    rintro v h ⟨rfl, g', rfl, hg⟩
    exact zz_fin.at (n := 1) rfl (.inr ⟨rfl, c1, g', rfl, hg⟩)
end
section
/-! READING NUMBERS: readNumber -/
theorem sp_run_le (b : Nat → Int32) (n : Nat) : ∀ (k p : Nat) (z : Int32), p ≤ (sp_run b n k p z).1
  | 0, p, z => Nat.le_refl p
  | k + 1, p, z => by
    rw [sp_run]
    split
    · have := sp_run_le b n k (p + 1) (z * 10 + sp_hb b n p - 48)
      omega
    · exact Nat.le_refl p
theorem sp_dg_lt {b : Nat → Int32} {n p : Nat} (h : sp_dg (sp_hb b n p) = true) : p < n := Decidable.byContradiction fun z => by
  rw [show sp_hb b n p = -1 from if_neg z] at h
  cases h
theorem sp_run_n (b : Nat → Int32) (n : Nat) : ∀ (k p : Nat) (z : Int32), p ≤ n → (sp_run b n k p z).1 ≤ n
  | 0, p, z, h => h
  | k + 1, p, z, h => by
    rw [sp_run]
    split
    · rename_i hd
      exact sp_run_n b n k (p + 1) _ (sp_dg_lt hd)
    · exact h
theorem sp_run_k (b : Nat → Int32) (n : Nat) : ∀ (k p : Nat) (z : Int32), (sp_run b n k p z).1 ≤ p + k
  | 0, p, z => Nat.le_refl p
  | k + 1, p, z => by
    rw [sp_run]
    split
    · have := sp_run_k b n k (p + 1) (z * 10 + sp_hb b n p - 48)
      omega
    · show p ≤ _
      omega
theorem tc_loop {g : aa_G} {b : Nat → Int32} {n : Nat} (h : tc_ok g b n) {w1 w2 w3 w4 w5 : Int32} {φ : Option Value → zz_H → Prop} : ∀ (k d p : Nat) (z : Int32), d + k = 5 → zz_fin none 26 (79, [some (.ref 454), some (.int w1), some (.int w2), some (.int w3), some (.int w4), some (.int w5), some (.int (sp_run b n k p z).2), some (.int (Int32.ofNat (d + ((sp_run b n k p z).1 - p))))], [], aa_H (tc_at g b n (sp_run b n k p z).1)) φ → zz_fin none 26 (41, [some (.ref 454), some (.int w1), some (.int w2), some (.int w3), some (.int w4), some (.int w5), some (.int z), some (.int (Int32.ofNat d))], [], aa_H (tc_at g b n p)) φ := by
  intro k
  induction k with
  | zero =>
    intro d p z hk k0
    have hd : d = 5 := by omega
    subst hd
    refine zz_fin.steps (n := 2) (s' := (44, [some (.ref 454), some (.int w1), some (.int w2), some (.int w3), some (.int w4), some (.int w5), some (.int z), some (.int (Int32.ofNat 5))], [.int 5, .int (Int32.ofNat 5)], aa_H (tc_at g b n p))) rfl ?_
    refine zz_fin.ic rfl (fun c1 => ?_) (fun c1 => ?_)
    · have e : 5 + ((sp_run b n 0 p z).1 - p) = 5 := by show 5 + (p - p) = 5; omega
      rw [e] at k0
      exact k0
    · exact absurd rfl c1
  | succ k ih =>
    intro d p z hk k0
    refine zz_fin.steps (n := 2) (s' := (44, [some (.ref 454), some (.int w1), some (.int w2), some (.int w3), some (.int w4), some (.int w5), some (.int z), some (.int (Int32.ofNat d))], [.int 5, .int (Int32.ofNat d)], aa_H (tc_at g b n p))) rfl ?_
    refine zz_fin.ic rfl (fun c1 => ?_) (fun c1 => ?_)
    · have c1 : (5 : Int32).toInt ≤ (Int32.ofNat d).toInt := aa_le32.mp (of_decide_eq_true c1)
      rw [zz_ofN (by omega), show (5 : Int32).toInt = 5 from rfl] at c1
      omega
    · refine zz_fin.steps (n := 1) (s' := (48, [some (.ref 454), some (.int w1), some (.int w2), some (.int w3), some (.int w4), some (.int w5), some (.int z), some (.int (Int32.ofNat d))], [.ref 454], aa_H (tc_at g b n p))) rfl ?_
      refine zz_fin.call rfl rfl (Nat.le_of_ble_eq_true rfl) (tc_dig) ?_
      rintro v h ⟨⟨rfl, hd⟩ | ⟨rfl, hd⟩, rfl⟩
      · rw [show sp_run b n (k + 1) p z = sp_run b n k (p + 1) (z * 10 + sp_hb b n p - 48) by rw [sp_run, if_pos hd]] at k0
        refine zz_fin.if rfl (fun c => zc_no1 c) (fun c => ?_)
        refine zz_fin.steps (n := 10) (s' := (70, [some (.ref 454), some (.int w1), some (.int w2), some (.int w3), some (.int w4), some (.int w5), some (.int (((z * 10) + (sp_hb b n p)) - 48)), some (.int (Int32.ofNat d))], [.ref 454], aa_H (tc_at g b n p))) rfl ?_
        refine zz_fin.call rfl rfl (Nat.le_of_ble_eq_true rfl) (tc_step h (sp_dg_lt hd)) ?_
        rintro v h ⟨rfl, rfl⟩
        refine zz_fin.steps (n := 2) (s' := (41, [some (.ref 454), some (.int w1), some (.int w2), some (.int w3), some (.int w4), some (.int w5), some (.int (((z * 10) + (sp_hb b n p)) - 48)), some (.int ((Int32.ofNat d) + 1))], [], aa_H (tc_at g b n (p + 1)))) rfl ?_
        rw [aa_succ]
        refine ih (d + 1) (p + 1) _ (by omega) ?_
        have hle := sp_run_le b n k (p + 1) (z * 10 + sp_hb b n p - 48)
        rw [show d + 1 + ((sp_run b n k (p + 1) (z * 10 + sp_hb b n p - 48)).1 - (p + 1)) = d + ((sp_run b n k (p + 1) (z * 10 + sp_hb b n p - 48)).1 - p) by omega]
        exact k0
      · rw [show sp_run b n (k + 1) p z = (p, z) by rw [sp_run, if_neg (by rw [hd]; decide)]] at k0
        refine zz_fin.if rfl (fun c => ?_) (fun c => zc_no0 c)
        have e : d + ((p, z).1 - p) = d := by show d + (p - p) = d; omega
        rw [e] at k0
        exact k0
/-- what readNumber answers -/
def tc_res (g : aa_G) (b : Nat → Int32) (n : Nat) (r : Nat ⊕ (Nat × Int32)) (v : Option Value) (h : zz_H) : Prop := (∃ f, r = .inl f ∧ v = some (.int 0) ∧ ∃ g', h = aa_H g' ∧ tc_bad g f g') ∨ (∃ q z, r = .inr (q, z) ∧ v = some (.int 1) ∧ h = aa_H (tc_at (zz_w g 454 3 z) b n q))
theorem tc_tail {g : aa_G} {b : Nat → Int32} {n : Nat} {a p q : Nat} {lo hi z : Int32} {m : Bool} {w1 : Int32} {d : Nat} (hd : d = q - a) (hq : a ≤ q) (hn : q ≤ n) (hn5 : n ≤ 500) : zz_fin none 26 (79, [some (.ref 454), some (.int w1), some (.int lo), some (.int hi), some (.int (Int32.ofNat p)), some (.int (if m = true then 1 else 0)), some (.int z), some (.int (Int32.ofNat d))], [], aa_H (tc_at g b n q)) (tc_res g b n (if q = a ∨ sp_dg (sp_hb b n q) = true then .inl q else (if (if m = true then -z else z) < lo ∨ hi < (if m = true then -z else z) then .inl p else .inr (q, if m = true then -z else z)))) := by
  have bad : (q = a ∨ sp_dg (sp_hb b n q) = true) → ∀ v h, (v = some (Value.int 0) ∧ ∃ g', h = aa_H g' ∧ tc_bad g q g') → tc_res g b n (if q = a ∨ sp_dg (sp_hb b n q) = true then .inl q else (if (if m = true then -z else z) < lo ∨ hi < (if m = true then -z else z) then .inl p else .inr (q, if m = true then -z else z))) v h := fun hc v h hv => by
    rw [if_pos hc]
    exact .inl ⟨q, rfl, hv⟩
  refine zz_fin.steps (n := 1) (s' := (81, [some (.ref 454), some (.int w1), some (.int lo), some (.int hi), some (.int (Int32.ofNat p)), some (.int (if m = true then 1 else 0)), some (.int z), some (.int (Int32.ofNat d))], [.int (Int32.ofNat d)], aa_H (tc_at g b n q))) rfl ?_
  refine zz_fin.if rfl (fun c1 => ?_) (fun c1 => ?_)
  · have c1 : Int32.ofNat d = 0 := of_decide_eq_true c1
    have hd0 : d = 0 := by have e := zz_ofN (n := d) (by omega); rw [c1, show (0 : Int32).toInt = 0 from rfl] at e; omega
    have hc : q = a ∨ sp_dg (sp_hb b n q) = true := .inl (by omega)
    refine zz_fin.steps (n := 1) (s' := (92, [some (.ref 454), some (.int w1), some (.int lo), some (.int hi), some (.int (Int32.ofNat p)), some (.int (if m = true then 1 else 0)), some (.int z), some (.int (Int32.ofNat d))], [.ref 454], aa_H (tc_at g b n q))) rfl ?_
    refine zz_fin.call rfl rfl (Nat.le_of_ble_eq_true rfl) (tc_fail) ?_
    rintro v h ⟨rfl, g', rfl, hg⟩
    exact zz_fin.at (n := 1) rfl (bad hc _ _ ⟨rfl, g', rfl, hg⟩)
  · have c1 : Int32.ofNat d ≠ 0 := fun z => c1 (decide_eq_true z)
    have hd0 : d ≠ 0 := fun z => c1 (by rw [z]; rfl)
    refine zz_fin.steps (n := 1) (s' := (85, [some (.ref 454), some (.int w1), some (.int lo), some (.int hi), some (.int (Int32.ofNat p)), some (.int (if m = true then 1 else 0)), some (.int z), some (.int (Int32.ofNat d))], [.ref 454], aa_H (tc_at g b n q))) rfl ?_
    refine zz_fin.call rfl rfl (Nat.le_of_ble_eq_true rfl) (tc_dig) ?_
    rintro v h ⟨⟨rfl, hg⟩ | ⟨rfl, hg⟩, rfl⟩
    · have hc : q = a ∨ sp_dg (sp_hb b n q) = true := .inr hg
      refine zz_fin.if rfl (fun c => zc_no1 c) (fun c => ?_)
      refine zz_fin.steps (n := 1) (s' := (92, [some (.ref 454), some (.int w1), some (.int lo), some (.int hi), some (.int (Int32.ofNat p)), some (.int (if m = true then 1 else 0)), some (.int z), some (.int (Int32.ofNat d))], [.ref 454], aa_H (tc_at g b n q))) rfl ?_
      refine zz_fin.call rfl rfl (Nat.le_of_ble_eq_true rfl) (tc_fail) ?_
      rintro v h ⟨rfl, g', rfl, hg⟩
      exact zz_fin.at (n := 1) rfl (bad hc _ _ ⟨rfl, g', rfl, hg⟩)
    · have hc : ¬ (q = a ∨ sp_dg (sp_hb b n q) = true) := fun e => by
        rcases e with e | e
        · omega
        · rw [hg] at e; cases e
      rw [if_neg hc]
      refine zz_fin.if rfl (fun c => ?_) (fun c => zc_no0 c)
      refine zz_fin.steps (n := 2) (s' := (99, [some (.ref 454), some (.int w1), some (.int lo), some (.int hi), some (.int (Int32.ofNat p)), some (.int (if m = true then 1 else 0)), some (.int z), some (.int (Int32.ofNat d))], [.int (if m = true then 1 else 0), .ref 454], aa_H (tc_at g b n q))) rfl ?_
      have key : zz_fin none 26 (110, [some (.ref 454), some (.int w1), some (.int lo), some (.int hi), some (.int (Int32.ofNat p)), some (.int (if m = true then 1 else 0)), some (.int z), some (.int (Int32.ofNat d))], [.int (if m = true then -z else z), .ref 454], aa_H (tc_at g b n q)) (tc_res g b n (if (if m = true then -z else z) < lo ∨ hi < (if m = true then -z else z) then .inl p else .inr (q, if m = true then -z else z))) := by
        generalize (if m = true then -z else z) = y
        generalize (if m = true then (1 : Int32) else 0) = m1
        refine zz_fin.steps (n := 4) (s' := (118, [some (.ref 454), some (.int w1), some (.int lo), some (.int hi), some (.int (Int32.ofNat p)), some (.int m1), some (.int z), some (.int (Int32.ofNat d))], [.int lo, .int y], aa_H (zz_w (tc_at g b n q) 454 3 y))) rfl ?_
        refine zz_fin.ic rfl (fun c3 => ?_) (fun c3 => ?_)
        · have c3 : y < lo := of_decide_eq_true c3
          rw [if_pos (.inl c3)]
          refine zz_fin.steps (n := 4) (s' := (136, [some (.ref 454), some (.int w1), some (.int lo), some (.int hi), some (.int (Int32.ofNat p)), some (.int m1), some (.int z), some (.int (Int32.ofNat d))], [.int 0], aa_H (zz_w (zz_w (tc_at g b n q) 454 3 y) 454 4 (Int32.ofNat p)))) rfl ?_
          refine zz_fin.at (n := 1) rfl (.inl ⟨p, rfl, rfl, _, rfl, fun k j hkj => ?_, aa_w_at _ _ _ _⟩)
          rw [aa_w_ne _ _ (by omega), aa_w_ne _ _ (by omega)]
          unfold tc_at
          rw [aa_w_ne _ _ (by omega), aa_w_ne _ _ (by omega)]
        · have c3 : ¬ y < lo := fun z => c3 (decide_eq_true z)
          refine zz_fin.steps (n := 3) (s' := (126, [some (.ref 454), some (.int w1), some (.int lo), some (.int hi), some (.int (Int32.ofNat p)), some (.int m1), some (.int z), some (.int (Int32.ofNat d))], [.int hi, .int y], aa_H (zz_w (tc_at g b n q) 454 3 y))) rfl ?_
          refine zz_fin.ic rfl (fun c4 => ?_) (fun c4 => ?_)
          · have c4 : ¬ hi < y := Int32.not_lt.mpr (of_decide_eq_true c4)
            rw [if_neg fun e => e.elim c3 c4]
            refine zz_fin.steps (n := 1) (s' := (138, [some (.ref 454), some (.int w1), some (.int lo), some (.int hi), some (.int (Int32.ofNat p)), some (.int m1), some (.int z), some (.int (Int32.ofNat d))], [.int 1], aa_H (zz_w (tc_at g b n q) 454 3 y))) rfl ?_
            exact zz_fin.at (n := 1) rfl (.inr ⟨q, y, rfl, rfl, by rw [tc_num3]⟩)
          · have c4 : hi < y := Int32.not_le.mp fun z => c4 (decide_eq_true z)
            rw [if_pos (.inr c4)]
            refine zz_fin.steps (n := 4) (s' := (136, [some (.ref 454), some (.int w1), some (.int lo), some (.int hi), some (.int (Int32.ofNat p)), some (.int m1), some (.int z), some (.int (Int32.ofNat d))], [.int 0], aa_H (zz_w (zz_w (tc_at g b n q) 454 3 y) 454 4 (Int32.ofNat p)))) rfl ?_
            refine zz_fin.at (n := 1) rfl (.inl ⟨p, rfl, rfl, _, rfl, fun k j hkj => ?_, aa_w_at _ _ _ _⟩)
            rw [aa_w_ne _ _ (by omega), aa_w_ne _ _ (by omega)]
            unfold tc_at
            rw [aa_w_ne _ _ (by omega), aa_w_ne _ _ (by omega)]
      cases m with
      | true =>
        refine zz_fin.if rfl (fun c => zc_no1 c) (fun c => ?_)
        refine zz_fin.steps (n := 3) (s' := (110, [some (.ref 454), some (.int w1), some (.int lo), some (.int hi), some (.int (Int32.ofNat p)), some (.int 1), some (.int z), some (.int (Int32.ofNat d))], [.int (-z), .ref 454], aa_H (tc_at g b n q))) rfl ?_
        exact key
      | false =>
        refine zz_fin.if rfl (fun c => ?_) (fun c => zc_no0 c)
        refine zz_fin.steps (n := 1) (s' := (110, [some (.ref 454), some (.int w1), some (.int lo), some (.int hi), some (.int (Int32.ofNat p)), some (.int 0), some (.int z), some (.int (Int32.ofNat d))], [.int z, .ref 454], aa_H (tc_at g b n q))) rfl ?_
        exact key
theorem tc_num {g : aa_G} {b : Nat → Int32} {n p : Nat} (h : tc_ok g b n) (hp : p ≤ n) (neg : Bool) (lo hi : Int32) : zz_fin none 26 (0, zz_in [.ref 454, .int (if neg = true then 1 else 0), .int lo, .int hi] (zz_nl 26), [], aa_H (tc_at g b n p)) (tc_res g b n (sp_num b n neg lo hi p)) := by
  have go : ∀ (a : Nat) (m : Bool), m = sp_neg b n p neg → a = (if m = true then p + 1 else p) → a ≤ n → zz_fin none 26 (35, [some (.ref 454), some (.int (if neg = true then 1 else 0)), some (.int lo), some (.int hi), some (.int (Int32.ofNat p)), some (.int (if m = true then 1 else 0)), none, none], [], aa_H (tc_at g b n a)) (tc_res g b n (sp_num b n neg lo hi p)) := fun a m hm ha han => by
    refine zz_fin.steps (n := 4) (s' := (41, [some (.ref 454), some (.int (if neg = true then 1 else 0)), some (.int lo), some (.int hi), some (.int (Int32.ofNat p)), some (.int (if m = true then 1 else 0)), some (.int 0), some (.int (Int32.ofNat 0))], [], aa_H (tc_at g b n a))) rfl ?_
    refine tc_loop h 5 0 a 0 rfl ?_
    have e : sp_num b n neg lo hi p = (if (sp_run b n 5 a 0).1 = a ∨ sp_dg (sp_hb b n (sp_run b n 5 a 0).1) = true then .inl (sp_run b n 5 a 0).1 else (if (if m = true then -(sp_run b n 5 a 0).2 else (sp_run b n 5 a 0).2) < lo ∨ hi < (if m = true then -(sp_run b n 5 a 0).2 else (sp_run b n 5 a 0).2) then .inl p else .inr ((sp_run b n 5 a 0).1, if m = true then -(sp_run b n 5 a 0).2 else (sp_run b n 5 a 0).2))) := by
      rw [ha, hm]
      rfl
    rw [e]
    exact tc_tail (by omega) (sp_run_le b n 5 a 0) (sp_run_n b n 5 a 0 han) h.2.1
  refine zz_fin.steps (n := 4) (s' := (7, [some (.ref 454), some (.int (if neg = true then 1 else 0)), some (.int lo), some (.int hi), some (.int (Int32.ofNat p)), none, none, none], [.int (if neg = true then 1 else 0)], aa_H (tc_at g b n p))) rfl ?_
  have c0 : sp_neg b n p false = false := rfl
  cases neg with
  | false =>
    refine zz_fin.if rfl (fun c => ?_) (fun c => zc_no0 c)
    refine zz_fin.steps (n := 3) (s' := (28, [some (.ref 454), some (.int 0), some (.int lo), some (.int hi), some (.int (Int32.ofNat p)), some (.int 0), none, none], [.int 0], aa_H (tc_at g b n p))) rfl ?_
    refine zz_fin.if rfl (fun c => ?_) (fun c => zc_no0 c)
    exact go p false rfl rfl hp
  | true =>
    refine zz_fin.if rfl (fun c => zc_no1 c) (fun c => ?_)
    refine zz_fin.steps (n := 3) (s' := (16, [some (.ref 454), some (.int 1), some (.int lo), some (.int hi), some (.int (Int32.ofNat p)), none, none, none], [.int 45, .int (sp_hb b n p)], aa_H (tc_at g b n p))) rfl ?_
    refine zz_fin.ic rfl (fun c1 => ?_) (fun c1 => ?_)
    · have c1 : sp_hb b n p ≠ 45 := of_decide_eq_true c1
      refine zz_fin.steps (n := 3) (s' := (28, [some (.ref 454), some (.int 1), some (.int lo), some (.int hi), some (.int (Int32.ofNat p)), some (.int 0), none, none], [.int 0], aa_H (tc_at g b n p))) rfl ?_
      refine zz_fin.if rfl (fun c => ?_) (fun c => zc_no0 c)
      exact go p false (by unfold sp_neg; rw [decide_eq_false c1]; rfl) rfl hp
    · have c1 : sp_hb b n p = 45 := Decidable.byContradiction fun z => c1 (decide_eq_true z)
      have hpn : p < n := Decidable.byContradiction fun z => by rw [show sp_hb b n p = -1 from if_neg z] at c1; cases c1
      refine zz_fin.steps (n := 4) (s' := (28, [some (.ref 454), some (.int 1), some (.int lo), some (.int hi), some (.int (Int32.ofNat p)), some (.int 1), none, none], [.int 1], aa_H (tc_at g b n p))) rfl ?_
      refine zz_fin.if rfl (fun c => zc_no1 c) (fun c => ?_)
      refine zz_fin.steps (n := 1) (s' := (32, [some (.ref 454), some (.int 1), some (.int lo), some (.int hi), some (.int (Int32.ofNat p)), some (.int 1), none, none], [.ref 454], aa_H (tc_at g b n p))) rfl ?_
      refine zz_fin.call rfl rfl (Nat.le_of_ble_eq_true rfl) (tc_step h hpn) ?_
      rintro v h ⟨rfl, rfl⟩
      exact go (p + 1) true (by unfold sp_neg; rw [decide_eq_true c1]; rfl) rfl hpn
end
section
/-! READING NUMBERS: the model's side -/
/-- the model's tape: its bytes -/
def tm_ok (g : aa_G) (b : Nat → Int32) (n : Nat) : Prop := g 540 4 = Int32.ofNat n ∧ n ≤ 500 ∧ ∀ j, j < n → g 543 j &&& 255 = b j
/-- the model's tape stands at a place; the number that was read -/
def tm_at (g : aa_G) (p : Nat) (z : Int32) : aa_G := zz_w (zz_w g 540 5 (Int32.ofNat p)) 540 7 z
def tm_bad (g : aa_G) (f : Nat) (g' : aa_G) : Prop := (∀ k j, ¬ (k = 540 ∧ 5 ≤ j ∧ j ≤ 7) → g' k j = g k j) ∧ g' 540 6 = Int32.ofNat f
theorem tm_over5 (g : aa_G) (p : Nat) (z a : Int32) : zz_w (tm_at g p z) 540 5 a = zz_w (zz_w g 540 5 a) 540 7 z := by
  unfold tm_at
  rw [zz_w_comm _ (k := 540) (j := 7) (a := 540) (b := 5) _ _ (by decide), zz_w_ww]
theorem tm_over7 (g : aa_G) (p : Nat) (z a : Int32) : zz_w (tm_at g p z) 540 7 a = tm_at g p a := zz_w_ww _ _ _ _ _
theorem tm_bad_of (g : aa_G) (p : Nat) (z : Int32) (f : Nat) : tm_bad g f (zz_w (tm_at g p z) 540 6 (Int32.ofNat f)) := by
  refine ⟨fun k j hkj => ?_, aa_w_at _ _ _ _⟩
  unfold tm_at
  rw [aa_w_ne _ _ (by omega), aa_w_ne _ _ (by omega), aa_w_ne _ _ (by omega)]
theorem tm_here {g : aa_G} {b : Nat → Int32} {n p : Nat} {z : Int32} (h : tm_ok g b n) (hp : p ≤ 500) : zz_fin none 167 (0, zz_in [.ref 540] (zz_nl 167), [], aa_H (tm_at g p z)) (fun v h => v = some (.int (sp_hb b n p)) ∧ h = aa_H (tm_at g p z)) := by
  obtain ⟨h0, hn, hb⟩ := h
  refine zz_fin.steps (n := 4) (s' := (8, [some (.ref 540)], [.int ((tm_at g p z) 540 4), .int (Int32.ofNat p)], aa_H (tm_at g p z))) rfl ?_
  have h0' : tm_at g p z 540 4 = Int32.ofNat n := h0
  rw [h0']
  refine zz_fin.ic rfl (fun c1 => ?_) (fun c1 => ?_)
  · have c1 : (Int32.ofNat n).toInt ≤ (Int32.ofNat p).toInt := aa_le32.mp (of_decide_eq_true c1)
    rw [zz_ofN (by omega), zz_ofN (by omega)] at c1
    refine zz_fin.steps (n := 1) (s' := (28, [some (.ref 540)], [.int (-1)], aa_H (tm_at g p z))) rfl ?_
    exact zz_fin.at (n := 1) rfl ⟨by rw [show sp_hb b n p = -1 from if_neg (by omega)], rfl⟩
  · have c1 : ¬ (Int32.ofNat n).toInt ≤ (Int32.ofNat p).toInt := fun z => c1 (decide_eq_true (aa_le32.mpr z))
    rw [zz_ofN (by omega), zz_ofN (by omega)] at c1
    refine zz_fin.steps (n := 4) (s' := (19, [some (.ref 540)], [.int (Int32.ofNat p), .ref 543], aa_H (tm_at g p z))) rfl ?_
    refine zz_fin.bal (n := 500) rfl rfl rfl (zz_inbN (by omega) (by omega)) ?_
    rw [zz_toN (by omega)]
    have hb1 : tm_at g p z 543 p &&& 255 = sp_hb b n p := (hb p (by omega)).trans (if_pos (by omega)).symm
    refine zz_fin.steps (n := 3) (s' := (28, [some (.ref 540)], [.int (tm_at g p z 543 p &&& 255)], aa_H (tm_at g p z))) rfl ?_
    exact zz_fin.at (n := 1) rfl ⟨by rw [hb1], rfl⟩
theorem tm_fig (c : Int32) {h0 : zz_H} : zz_fin none 172 (0, zz_in [.int c] (zz_nl 172), [], h0) (fun v h => ((v = some (.int 1) ∧ sp_dg c = true) ∨ (v = some (.int 0) ∧ sp_dg c = false)) ∧ h = h0) := by
  refine zz_fin.steps (n := 2) (s' := (3, [some (.int c)], [.int 48, .int c], h0)) rfl ?_
  refine zz_fin.ic rfl (fun c1 => ?_) (fun c1 => ?_)
  · have c1 : ¬ (48 : Int32) ≤ c := Int32.not_le.mpr (of_decide_eq_true c1)
    refine zz_fin.steps (n := 1) (s' := (17, [some (.int c)], [.int 0], h0)) rfl ?_
    exact zz_fin.at (n := 1) rfl ⟨.inr ⟨rfl, by unfold sp_dg; rw [decide_eq_false c1]; rfl⟩, rfl⟩
  · have c1 : (48 : Int32) ≤ c := Int32.not_lt.mp fun z => c1 (decide_eq_true z)
    refine zz_fin.steps (n := 2) (s' := (9, [some (.int c)], [.int 57, .int c], h0)) rfl ?_
    refine zz_fin.ic rfl (fun c2 => ?_) (fun c2 => ?_)
    · have c2 : ¬ c ≤ (57 : Int32) := Int32.not_le.mpr (of_decide_eq_true c2)
      refine zz_fin.steps (n := 1) (s' := (17, [some (.int c)], [.int 0], h0)) rfl ?_
      exact zz_fin.at (n := 1) rfl ⟨.inr ⟨rfl, by unfold sp_dg; rw [decide_eq_false c2, Bool.and_false]⟩, rfl⟩
    · have c2 : c ≤ (57 : Int32) := Int32.not_lt.mp fun z => c2 (decide_eq_true z)
      refine zz_fin.steps (n := 2) (s' := (17, [some (.int c)], [.int 1], h0)) rfl ?_
      exact zz_fin.at (n := 1) rfl ⟨.inl ⟨rfl, by unfold sp_dg; rw [decide_eq_true c1, decide_eq_true c2]; rfl⟩, rfl⟩
theorem tm_fails {g : aa_G} (c : Int32) : zz_fin none 169 (0, zz_in [.ref 540, .int c] (zz_nl 169), [], aa_H g) (fun v h => v = some (.int 0) ∧ h = aa_H (zz_w g 540 6 c)) := by
  refine zz_fin.steps (n := 4) (s' := (6, [some (.ref 540), some (.int c)], [.int 0], aa_H (zz_w g 540 6 c))) rfl ?_
  exact zz_fin.at (n := 1) rfl ⟨rfl, rfl⟩
theorem tm_takes {g : aa_G} {b : Nat → Int32} {n p : Nat} {z : Int32} (h : tm_ok g b n) (hp : p ≤ n) {c : Int32} (hc : c ≠ -1) : zz_fin none 173 (0, zz_in [.ref 540, .int c] (zz_nl 173), [], aa_H (tm_at g p z)) (fun v h => (v = some (.int 1) ∧ sp_hb b n p = c ∧ p < n ∧ h = aa_H (tm_at g (p + 1) z)) ∨ (v = some (.int 0) ∧ sp_hb b n p ≠ c ∧ ∃ g', h = aa_H g' ∧ tm_bad g p g')) := by
  have hn := h.2.1
  refine zz_fin.steps (n := 1) (s' := (1, [some (.ref 540), some (.int c)], [.ref 540], aa_H (tm_at g p z))) rfl ?_
  refine zz_fin.call rfl rfl (Nat.le_of_ble_eq_true rfl) (tm_here h (by omega)) ?_
  rintro v h ⟨rfl, rfl⟩
  refine zz_fin.steps (n := 1) (s' := (5, [some (.ref 540), some (.int c)], [.int c, .int (sp_hb b n p)], aa_H (tm_at g p z))) rfl ?_
  refine zz_fin.ic rfl (fun c1 => ?_) (fun c1 => ?_)
  · have c1 : sp_hb b n p = c := of_decide_eq_true c1
    have hp1 : p < n := Decidable.byContradiction fun z => hc (by rw [← c1]; exact if_neg z)
    refine zz_fin.steps (n := 5) (s' := (24, [some (.ref 540), some (.int c)], [.int ((Int32.ofNat p) + 1), .ref 540], aa_H (tm_at g p z))) rfl ?_
    rw [aa_succ]
    refine zz_fin.steps (n := 2) (s' := (28, [some (.ref 540), some (.int c)], [.int 1], aa_H (zz_w (tm_at g p z) 540 5 (Int32.ofNat (p + 1))))) rfl ?_
    exact zz_fin.at (n := 1) rfl (.inl ⟨rfl, c1, hp1, by rw [tm_over5]; rfl⟩)
  · have c1 : sp_hb b n p ≠ c := fun z => c1 (decide_eq_true z)
    refine zz_fin.steps (n := 3) (s' := (13, [some (.ref 540), some (.int c)], [.int (Int32.ofNat p), .ref 540], aa_H (tm_at g p z))) rfl ?_
    refine zz_fin.call rfl rfl (Nat.le_of_ble_eq_true rfl) (tm_fails _) ?_
    rintro v h ⟨rfl, rfl⟩
    exact zz_fin.at (n := 1) rfl (.inr ⟨rfl, c1, _, rfl, tm_bad_of g p z p⟩)
theorem tm_loop {g : aa_G} {b : Nat → Int32} {n a : Nat} (h : tm_ok g b n) {φ : Option Value → zz_H → Prop} : ∀ (k p : Nat) (z : Int32), p + k = a + 5 → a ≤ p → p ≤ n → zz_fin none 171 (81, [some (.ref 540), some (.int (Int32.ofNat a))], [], aa_H (tm_at g (sp_run b n k p z).1 (sp_run b n k p z).2)) φ → zz_fin none 171 (29, [some (.ref 540), some (.int (Int32.ofNat a))], [], aa_H (tm_at g p z)) φ := by
  have hn := h.2.1
  intro k
  induction k with
  | zero =>
    intro p z hk ha hpn k0
    refine zz_fin.steps (n := 1) (s' := (30, [some (.ref 540), some (.int (Int32.ofNat a))], [.ref 540], aa_H (tm_at g p z))) rfl ?_
    refine zz_fin.call rfl rfl (Nat.le_of_ble_eq_true rfl) (tm_here h (by omega)) ?_
    rintro v h ⟨rfl, rfl⟩
    refine zz_fin.call rfl rfl (Nat.le_of_ble_eq_true rfl) (tm_fig _) ?_
    rintro v h ⟨⟨rfl, hd⟩ | ⟨rfl, hd⟩, rfl⟩
    · refine zz_fin.if rfl (fun c => zc_no1 c) (fun c => ?_)
      refine zz_fin.steps (n := 5) (s' := (46, [some (.ref 540), some (.int (Int32.ofNat a))], [.int 5, .int ((Int32.ofNat p) - (Int32.ofNat a))], aa_H (tm_at g p z))) rfl ?_
      refine zz_fin.ic rfl (fun c1 => ?_) (fun c1 => ?_)
      · exact k0
      · refine absurd (decide_eq_true (aa_le32.mpr ?_)) c1
        rw [aa_sub32 (by rw [zz_ofN (by omega), zz_ofN (by omega)]; omega) (by rw [zz_ofN (by omega), zz_ofN (by omega)]; omega), zz_ofN (by omega), zz_ofN (by omega), show (5 : Int32).toInt = 5 from rfl]
        omega
    · refine zz_fin.if rfl (fun c => ?_) (fun c => zc_no0 c)
      exact k0
  | succ k ih =>
    intro p z hk ha hpn k0
    refine zz_fin.steps (n := 1) (s' := (30, [some (.ref 540), some (.int (Int32.ofNat a))], [.ref 540], aa_H (tm_at g p z))) rfl ?_
    refine zz_fin.call rfl rfl (Nat.le_of_ble_eq_true rfl) (tm_here h (by omega)) ?_
    rintro v h ⟨rfl, rfl⟩
    refine zz_fin.call rfl rfl (Nat.le_of_ble_eq_true rfl) (tm_fig _) ?_
    rintro v h ⟨⟨rfl, hd⟩ | ⟨rfl, hd⟩, rfl⟩
    · rw [show sp_run b n (k + 1) p z = sp_run b n k (p + 1) (z * 10 + sp_hb b n p - 48) by rw [sp_run, if_pos hd]] at k0
      refine zz_fin.if rfl (fun c => zc_no1 c) (fun c => ?_)
      refine zz_fin.steps (n := 5) (s' := (46, [some (.ref 540), some (.int (Int32.ofNat a))], [.int 5, .int ((Int32.ofNat p) - (Int32.ofNat a))], aa_H (tm_at g p z))) rfl ?_
      refine zz_fin.ic rfl (fun c1 => ?_) (fun c1 => ?_)
      · have c1 : (5 : Int32).toInt ≤ (Int32.ofNat p - Int32.ofNat a).toInt := aa_le32.mp (of_decide_eq_true c1)
        rw [aa_sub32 (by rw [zz_ofN (by omega), zz_ofN (by omega)]; omega) (by rw [zz_ofN (by omega), zz_ofN (by omega)]; omega), zz_ofN (by omega), zz_ofN (by omega), show (5 : Int32).toInt = 5 from rfl] at c1
        omega
      · refine zz_fin.steps (n := 6) (s' := (58, [some (.ref 540), some (.int (Int32.ofNat a))], [.ref 540, .int (10 * z), .ref 540], aa_H (tm_at g p z))) rfl ?_
        refine zz_fin.call rfl rfl (Nat.le_of_ble_eq_true rfl) (tm_here h (by omega)) ?_
        rintro v h ⟨rfl, rfl⟩
        refine zz_fin.steps (n := 9) (s' := (75, [some (.ref 540), some (.int (Int32.ofNat a))], [.int ((Int32.ofNat p) + 1), .ref 540], aa_H (zz_w (tm_at g p z) 540 7 (((10 * z) + (sp_hb b n p)) - 48)))) rfl ?_
        rw [aa_succ]
        refine zz_fin.steps (n := 2) (s' := (29, [some (.ref 540), some (.int (Int32.ofNat a))], [], aa_H (zz_w (zz_w (tm_at g p z) 540 7 (((10 * z) + (sp_hb b n p)) - 48)) 540 5 (Int32.ofNat (p + 1))))) rfl ?_
        have e : zz_w (zz_w (tm_at g p z) 540 7 (10 * z + sp_hb b n p - 48)) 540 5 (Int32.ofNat (p + 1)) = tm_at g (p + 1) (z * 10 + sp_hb b n p - 48) := by
          rw [tm_over7, tm_over5, Int32.mul_comm 10 z]
          rfl
        rw [e]
        exact ih (p + 1) _ (by omega) (by omega) (sp_dg_lt hd) k0
    · rw [show sp_run b n (k + 1) p z = (p, z) by rw [sp_run, if_neg (by rw [hd]; decide)]] at k0
      refine zz_fin.if rfl (fun c => ?_) (fun c => zc_no0 c)
      exact k0
/-- what readDigits answers -/
theorem tm_digits {g : aa_G} {b : Nat → Int32} {n p : Nat} {z : Int32} (h : tm_ok g b n) (hp : p ≤ n) : zz_fin none 171 (0, zz_in [.ref 540] (zz_nl 171), [], aa_H (tm_at g p z)) (fun v h => (v = some (.int 0) ∧ ((sp_run b n 5 p 0).1 = p ∨ sp_dg (sp_hb b n (sp_run b n 5 p 0).1) = true) ∧ ∃ g', h = aa_H g' ∧ tm_bad g (sp_run b n 5 p 0).1 g') ∨ (v = some (.int 1) ∧ ¬ ((sp_run b n 5 p 0).1 = p ∨ sp_dg (sp_hb b n (sp_run b n 5 p 0).1) = true) ∧ h = aa_H (tm_at g (sp_run b n 5 p 0).1 (sp_run b n 5 p 0).2))) := by
  have hn := h.2.1
  refine zz_fin.steps (n := 1) (s' := (1, [some (.ref 540), none], [.ref 540], aa_H (tm_at g p z))) rfl ?_
  refine zz_fin.call rfl rfl (Nat.le_of_ble_eq_true rfl) (tm_here h (by omega)) ?_
  rintro v h ⟨rfl, rfl⟩
  refine zz_fin.call rfl rfl (Nat.le_of_ble_eq_true rfl) (tm_fig _) ?_
  rintro v h ⟨⟨rfl, hd⟩ | ⟨rfl, hd⟩, rfl⟩
  · refine zz_fin.if rfl (fun c => ?_) (fun c => absurd rfl c)
    refine zz_fin.steps (n := 6) (s' := (29, [some (.ref 540), some (.int (Int32.ofNat p))], [], aa_H (zz_w (tm_at g p z) 540 7 0))) rfl ?_
    rw [tm_over7]
    refine tm_loop h 5 p 0 (by omega) (Nat.le_refl p) hp ?_
    have hr := sp_run_n b n 5 p 0 hp
    have hne : (sp_run b n 5 p 0).1 ≠ p := by
      have := sp_run_le b n 4 (p + 1) (0 * 10 + sp_hb b n p - 48)
      rw [show sp_run b n 5 p 0 = sp_run b n 4 (p + 1) (0 * 10 + sp_hb b n p - 48) by rw [sp_run, if_pos hd]]
      omega
    generalize sp_run b n 5 p 0 = r at hr hne ⊢
    obtain ⟨q, y⟩ := r
    have hr : q ≤ n := hr
    have hne : q ≠ p := hne
    show zz_fin none 171 (81, [some (.ref 540), some (.int (Int32.ofNat p))], [], aa_H (tm_at g q y)) _
    refine zz_fin.steps (n := 1) (s' := (82, [some (.ref 540), some (.int (Int32.ofNat p))], [.ref 540], aa_H (tm_at g q y))) rfl ?_
    refine zz_fin.call rfl rfl (Nat.le_of_ble_eq_true rfl) (tm_here h (by omega)) ?_
    rintro v h ⟨rfl, rfl⟩
    refine zz_fin.call rfl rfl (Nat.le_of_ble_eq_true rfl) (tm_fig _) ?_
    rintro v h ⟨⟨rfl, hd⟩ | ⟨rfl, hd⟩, rfl⟩
    · refine zz_fin.if rfl (fun c => zc_no1 c) (fun c => ?_)
      refine zz_fin.steps (n := 3) (s' := (96, [some (.ref 540), some (.int (Int32.ofNat p))], [.int (Int32.ofNat q), .ref 540], aa_H (tm_at g q y))) rfl ?_
      refine zz_fin.call rfl rfl (Nat.le_of_ble_eq_true rfl) (tm_fails _) ?_
      rintro v h ⟨rfl, rfl⟩
      refine zz_fin.if rfl (fun c => ?_) (fun c => zc_no0 c)
      refine zz_fin.steps (n := 1) (s' := (107, [some (.ref 540), some (.int (Int32.ofNat p))], [.int 0], aa_H (zz_w (tm_at g q y) 540 6 (Int32.ofNat q)))) rfl ?_
      exact zz_fin.at (n := 1) rfl (.inl ⟨rfl, .inr hd, _, rfl, tm_bad_of g q y q⟩)
    · refine zz_fin.if rfl (fun c => ?_) (fun c => zc_no0 c)
      refine zz_fin.steps (n := 2) (s' := (107, [some (.ref 540), some (.int (Int32.ofNat p))], [.int 1], aa_H (tm_at g q y))) rfl ?_
      exact zz_fin.at (n := 1) rfl (.inr ⟨rfl, (fun e => e.elim hne fun e => (by have e : sp_dg (sp_hb b n q) = true := e; rw [hd] at e; cases e)), rfl⟩)
  · have e : sp_run b n 5 p 0 = (p, 0) := by rw [sp_run, if_neg (by rw [hd]; decide)]
    rw [e]
    refine zz_fin.if rfl (fun c => absurd c (by decide)) (fun c => ?_)
    refine zz_fin.steps (n := 3) (s' := (15, [some (.ref 540), none], [.int (Int32.ofNat p), .ref 540], aa_H (tm_at g p z))) rfl ?_
    refine zz_fin.call rfl rfl (Nat.le_of_ble_eq_true rfl) (tm_fails _) ?_
    rintro v h ⟨rfl, rfl⟩
    exact zz_fin.at (n := 1) rfl (.inl ⟨rfl, .inl rfl, _, rfl, tm_bad_of g p z p⟩)
end
section
/-! READING NUMBERS: the model's readSigned and readPlain -/
def tm_res (g : aa_G) (r : Nat ⊕ (Nat × Int32)) (v : Option Value) (h : zz_H) : Prop := (∃ f, r = .inl f ∧ v = some (.int 0) ∧ ∃ g', h = aa_H g' ∧ tm_bad g f g') ∨ (∃ q z, r = .inr (q, z) ∧ v = some (.int 1) ∧ h = aa_H (tm_at g q z))
theorem tm_range {h : zz_H} {lo hi z : Int32} : zz_fin none 154 (0, zz_in [.int z, .int lo, .int hi] (zz_nl 154), [], h) (fun v h' => ((v = some (.int 1) ∧ ¬ (z < lo ∨ hi < z)) ∨ (v = some (.int 0) ∧ (z < lo ∨ hi < z))) ∧ h' = h) := by
  by_cases c : lo ≤ z ∧ z ≤ hi
  · refine (zz_within1 (.inr rfl) c).mono ?_
    rintro v h' ⟨rfl, rfl⟩
    exact ⟨.inl ⟨rfl, fun e => e.elim (fun e => Int32.not_le.mpr e c.1) (fun e => Int32.not_le.mpr e c.2)⟩, rfl⟩
  · refine (zz_within0 (.inr rfl) c).mono ?_
    rintro v h' ⟨rfl, rfl⟩
    refine ⟨.inr ⟨rfl, ?_⟩, rfl⟩
    by_cases d : lo ≤ z
    · exact .inr (Int32.not_le.mp fun e => c ⟨d, e⟩)
    · exact .inl (Int32.not_le.mp d)
theorem tm_stail {g : aa_G} {b : Nat → Int32} {n p a : Nat} {z lo hi : Int32} {m : Bool} (h : tm_ok g b n) (ha : a ≤ n) (hm : m = sp_neg b n p true) (hpa : a = if m = true then p + 1 else p) : zz_fin none 170 (36, [some (.ref 540), some (.int lo), some (.int hi), some (.int (Int32.ofNat p)), some (.int (if m = true then 1 else 0))], [], aa_H (tm_at g a z)) (tm_res g (sp_num b n true lo hi p)) := by
  have e : sp_num b n true lo hi p = (if (sp_run b n 5 a 0).1 = a ∨ sp_dg (sp_hb b n (sp_run b n 5 a 0).1) = true then .inl (sp_run b n 5 a 0).1 else (if (if m = true then -(sp_run b n 5 a 0).2 else (sp_run b n 5 a 0).2) < lo ∨ hi < (if m = true then -(sp_run b n 5 a 0).2 else (sp_run b n 5 a 0).2) then .inl p else .inr ((sp_run b n 5 a 0).1, if m = true then -(sp_run b n 5 a 0).2 else (sp_run b n 5 a 0).2))) := by
    rw [hpa, hm]
    rfl
  rw [e]
  refine zz_fin.steps (n := 1) (s' := (37, [some (.ref 540), some (.int lo), some (.int hi), some (.int (Int32.ofNat p)), some (.int (if m = true then 1 else 0))], [.ref 540], aa_H (tm_at g a z))) rfl ?_
  refine zz_fin.call rfl rfl (Nat.le_of_ble_eq_true rfl) (tm_digits h ha) ?_
  rintro v h (⟨rfl, hc, g', rfl, hg⟩ | ⟨rfl, hc, rfl⟩)
  · rw [if_pos hc]
    refine zz_fin.if rfl (fun c => absurd c (by decide)) (fun c => ?_)
    refine zz_fin.steps (n := 1) (s' := (44, [some (.ref 540), some (.int lo), some (.int hi), some (.int (Int32.ofNat p)), some (.int (if m = true then 1 else 0))], [.int 0], aa_H (g'))) rfl ?_
    exact zz_fin.at (n := 1) rfl (.inl ⟨_, rfl, rfl, g', rfl, hg⟩)
  · rw [if_neg hc]
    refine zz_fin.if rfl (fun c => ?_) (fun c => absurd rfl c)
    generalize sp_run b n 5 a 0 = r
    obtain ⟨q, y⟩ := r
    show zz_fin none 170 (45, [some (.ref 540), some (.int lo), some (.int hi), some (.int (Int32.ofNat p)), some (.int (if m = true then 1 else 0))], [], aa_H (tm_at g q y)) (tm_res g (if (if m = true then -y else y) < lo ∨ hi < (if m = true then -y else y) then .inl p else .inr (q, if m = true then -y else y)))
    refine zz_fin.steps (n := 2) (s' := (48, [some (.ref 540), some (.int lo), some (.int hi), some (.int (Int32.ofNat p)), some (.int (if m = true then 1 else 0))], [.int (if m = true then 1 else 0), .ref 540], aa_H (tm_at g q y))) rfl ?_
    have key : zz_fin none 170 (63, [some (.ref 540), some (.int lo), some (.int hi), some (.int (Int32.ofNat p)), some (.int (if m = true then 1 else 0))], [.int (if m = true then -y else y), .ref 540], aa_H (tm_at g q y)) (tm_res g (if (if m = true then -y else y) < lo ∨ hi < (if m = true then -y else y) then .inl p else .inr (q, if m = true then -y else y))) := by
      generalize (if m = true then -y else y) = x
      generalize (if m = true then (1 : Int32) else 0) = m1
      refine zz_fin.steps (n := 5) (s' := (72, [some (.ref 540), some (.int lo), some (.int hi), some (.int (Int32.ofNat p)), some (.int m1)], [.int hi, .int lo, .int x], aa_H (zz_w (tm_at g q y) 540 7 x))) rfl ?_
      rw [tm_over7]
      refine zz_fin.call rfl rfl (Nat.le_of_ble_eq_true rfl) (tm_range) ?_
      rintro v h ⟨⟨rfl, hr⟩ | ⟨rfl, hr⟩, rfl⟩
      · rw [if_neg hr]
        refine zz_fin.if rfl (fun c => ?_) (fun c => absurd rfl c)
        refine zz_fin.steps (n := 2) (s' := (91, [some (.ref 540), some (.int lo), some (.int hi), some (.int (Int32.ofNat p)), some (.int m1)], [.int 1], aa_H (tm_at g q x))) rfl ?_
        exact zz_fin.at (n := 1) rfl (.inr ⟨q, x, rfl, rfl, rfl⟩)
      · rw [if_pos hr]
        refine zz_fin.if rfl (fun c => absurd c (by decide)) (fun c => ?_)
        refine zz_fin.steps (n := 2) (s' := (80, [some (.ref 540), some (.int lo), some (.int hi), some (.int (Int32.ofNat p)), some (.int m1)], [.int (Int32.ofNat p), .ref 540], aa_H (tm_at g q x))) rfl ?_
        refine zz_fin.call rfl rfl (Nat.le_of_ble_eq_true rfl) (tm_fails _) ?_
        rintro v h ⟨rfl, rfl⟩
        refine zz_fin.if rfl (fun c => ?_) (fun c => zc_no0 c)
        refine zz_fin.steps (n := 1) (s' := (91, [some (.ref 540), some (.int lo), some (.int hi), some (.int (Int32.ofNat p)), some (.int m1)], [.int 0], aa_H (zz_w (tm_at g q x) 540 6 (Int32.ofNat p)))) rfl ?_
        exact zz_fin.at (n := 1) rfl (.inl ⟨p, rfl, rfl, _, rfl, tm_bad_of g q x p⟩)
    cases m with
    | true =>
      refine zz_fin.if rfl (fun c => zc_no1 c) (fun c => ?_)
      refine zz_fin.steps (n := 4) (s' := (63, [some (.ref 540), some (.int lo), some (.int hi), some (.int (Int32.ofNat p)), some (.int 1)], [.int (-y), .ref 540], aa_H (tm_at g q y))) rfl ?_
      exact key
    | false =>
      refine zz_fin.if rfl (fun c => ?_) (fun c => zc_no0 c)
      refine zz_fin.steps (n := 2) (s' := (63, [some (.ref 540), some (.int lo), some (.int hi), some (.int (Int32.ofNat p)), some (.int 0)], [.int (y), .ref 540], aa_H (tm_at g q y))) rfl ?_
      exact key
theorem tm_signed {g : aa_G} {b : Nat → Int32} {n p : Nat} {z lo hi : Int32} (h : tm_ok g b n) (hp : p ≤ n) : zz_fin none 170 (0, zz_in [.ref 540, .int lo, .int hi] (zz_nl 170), [], aa_H (tm_at g p z)) (tm_res g (sp_num b n true lo hi p)) := by
  have hn := h.2.1
  refine zz_fin.steps (n := 4) (s' := (6, [some (.ref 540), some (.int lo), some (.int hi), some (.int (Int32.ofNat p)), none], [.ref 540], aa_H (tm_at g p z))) rfl ?_
  refine zz_fin.call rfl rfl (Nat.le_of_ble_eq_true rfl) (tm_here h (by omega)) ?_
  rintro v h ⟨rfl, rfl⟩
  refine zz_fin.steps (n := 1) (s' := (11, [some (.ref 540), some (.int lo), some (.int hi), some (.int (Int32.ofNat p)), none], [.int 45, .int (sp_hb b n p)], aa_H (tm_at g p z))) rfl ?_
  refine zz_fin.ic rfl (fun c1 => ?_) (fun c1 => ?_)
  · have c1 : sp_hb b n p ≠ 45 := of_decide_eq_true c1
    refine zz_fin.steps (n := 3) (s' := (23, [some (.ref 540), some (.int lo), some (.int hi), some (.int (Int32.ofNat p)), some (.int 0)], [.int 0], aa_H (tm_at g p z))) rfl ?_
    refine zz_fin.if rfl (fun c => ?_) (fun c => zc_no0 c)
    exact tm_stail (m := false) h hp (by unfold sp_neg; rw [decide_eq_false c1]; rfl) rfl
  · have c1 : sp_hb b n p = 45 := Decidable.byContradiction fun z => c1 (decide_eq_true z)
    have hpn : p < n := Decidable.byContradiction fun z => by rw [show sp_hb b n p = -1 from if_neg z] at c1; cases c1
    refine zz_fin.steps (n := 4) (s' := (23, [some (.ref 540), some (.int lo), some (.int hi), some (.int (Int32.ofNat p)), some (.int 1)], [.int 1], aa_H (tm_at g p z))) rfl ?_
    refine zz_fin.if rfl (fun c => zc_no1 c) (fun c => ?_)
    refine zz_fin.steps (n := 5) (s' := (33, [some (.ref 540), some (.int lo), some (.int hi), some (.int (Int32.ofNat p)), some (.int 1)], [.int ((Int32.ofNat p) + 1), .ref 540], aa_H (tm_at g p z))) rfl ?_
    rw [aa_succ]
    refine zz_fin.steps (n := 1) (s' := (36, [some (.ref 540), some (.int lo), some (.int hi), some (.int (Int32.ofNat p)), some (.int 1)], [], aa_H (zz_w (tm_at g p z) 540 5 (Int32.ofNat (p + 1))))) rfl ?_
    rw [tm_over5]
    exact tm_stail (m := true) h hpn (by unfold sp_neg; rw [decide_eq_true c1]; rfl) rfl
theorem tm_plain {g : aa_G} {b : Nat → Int32} {n p : Nat} {z lo hi : Int32} (h : tm_ok g b n) (hp : p ≤ n) : zz_fin none 180 (0, zz_in [.ref 540, .int lo, .int hi] (zz_nl 180), [], aa_H (tm_at g p z)) (tm_res g (sp_num b n false lo hi p)) := by
  have e : sp_num b n false lo hi p = (if (sp_run b n 5 p 0).1 = p ∨ sp_dg (sp_hb b n (sp_run b n 5 p 0).1) = true then .inl (sp_run b n 5 p 0).1 else (if (sp_run b n 5 p 0).2 < lo ∨ hi < (sp_run b n 5 p 0).2 then .inl p else .inr ((sp_run b n 5 p 0).1, (sp_run b n 5 p 0).2))) := rfl
  rw [e]
  refine zz_fin.steps (n := 4) (s' := (6, [some (.ref 540), some (.int lo), some (.int hi), some (.int (Int32.ofNat p))], [.ref 540], aa_H (tm_at g p z))) rfl ?_
  refine zz_fin.call rfl rfl (Nat.le_of_ble_eq_true rfl) (tm_digits h hp) ?_
  rintro v h (⟨rfl, hc, g', rfl, hg⟩ | ⟨rfl, hc, rfl⟩)
  · rw [if_pos hc]
    refine zz_fin.if rfl (fun c => ?_) (fun c => zc_no0 c)
    refine zz_fin.steps (n := 1) (s' := (37, [some (.ref 540), some (.int lo), some (.int hi), some (.int (Int32.ofNat p))], [.int 0], aa_H (g'))) rfl ?_
    exact zz_fin.at (n := 1) rfl (.inl ⟨_, rfl, rfl, g', rfl, hg⟩)
  · rw [if_neg hc]
    refine zz_fin.if rfl (fun c => zc_no1 c) (fun c => ?_)
    generalize sp_run b n 5 p 0 = r
    obtain ⟨q, x⟩ := r
    show zz_fin none 180 (12, [some (.ref 540), some (.int lo), some (.int hi), some (.int (Int32.ofNat p))], [], aa_H (tm_at g q x)) (tm_res g (if x < lo ∨ hi < x then .inl p else .inr (q, x)))
    refine zz_fin.steps (n := 4) (s' := (18, [some (.ref 540), some (.int lo), some (.int hi), some (.int (Int32.ofNat p))], [.int hi, .int lo, .int x], aa_H (tm_at g q x))) rfl ?_
    refine zz_fin.call rfl rfl (Nat.le_of_ble_eq_true rfl) (tm_range) ?_
    rintro v h ⟨⟨rfl, hr⟩ | ⟨rfl, hr⟩, rfl⟩
    · rw [if_neg hr]
      refine zz_fin.if rfl (fun c => ?_) (fun c => absurd rfl c)
      refine zz_fin.steps (n := 2) (s' := (37, [some (.ref 540), some (.int lo), some (.int hi), some (.int (Int32.ofNat p))], [.int 1], aa_H (tm_at g q x))) rfl ?_
      exact zz_fin.at (n := 1) rfl (.inr ⟨q, x, rfl, rfl, rfl⟩)
    · rw [if_pos hr]
      refine zz_fin.if rfl (fun c => absurd c (by decide)) (fun c => ?_)
      refine zz_fin.steps (n := 2) (s' := (26, [some (.ref 540), some (.int lo), some (.int hi), some (.int (Int32.ofNat p))], [.int (Int32.ofNat p), .ref 540], aa_H (tm_at g q x))) rfl ?_
      refine zz_fin.call rfl rfl (Nat.le_of_ble_eq_true rfl) (tm_fails _) ?_
      rintro v h ⟨rfl, rfl⟩
      refine zz_fin.if rfl (fun c => ?_) (fun c => zc_no0 c)
      refine zz_fin.steps (n := 1) (s' := (37, [some (.ref 540), some (.int lo), some (.int hi), some (.int (Int32.ofNat p))], [.int 0], aa_H (zz_w (tm_at g q x) 540 6 (Int32.ofNat p)))) rfl ?_
      exact zz_fin.at (n := 1) rfl (.inl ⟨p, rfl, rfl, _, rfl, tm_bad_of g q x p⟩)
end
section
/-! TOWNS AND POINTS OF A STATE: the class's small methods, for the states 2 and 34 -/
/-- which state: 2 or 34; its town t is the cell 5 t + S + 12 -/
theorem dt_four {t : Nat} (h : t < 4) : t = 0 ∨ t = 1 ∨ t = 2 ∨ t = 3 := by omega
theorem dt_obj_2 {t : Nat} (ht : t < 4) {g : aa_G} : (zz_obj (aa_H g) (5 * t + 13 + 1) 7).isSome = true := by
  rcases dt_four ht with rfl | rfl | rfl | rfl <;> rfl
theorem dt_obj_34 {t : Nat} (ht : t < 4) {g : aa_G} : (zz_obj (aa_H g) (5 * t + 45 + 1) 7).isSome = true := by
  rcases dt_four ht with rfl | rfl | rfl | rfl <;> rfl
section AJ
variable {X : zz_X} {m pc : Nat} {lv : zz_V} {φ : Option Value → zz_H → Prop}
theorem zz_fin.gt0_2 {u w : Nat} {vv : Value} {sw : List (Int × Nat)} {q : Nat} {r : List Value} {g : aa_G} {t : Nat} (ht : t < 4) (hT : zz_T m pc = some (.getfield q, (7, 0, u, w), vv, sw)) (kk : zz_fin X m (pc + 3, lv, .int (g (5 * t + 14) 0) :: r, aa_H g) φ) : zz_fin X m (pc, lv, .ref (5 * t + 14) :: r, aa_H g) φ := by
  refine zz_fin.step1 hT ?_ kk
  rcases dt_four ht with rfl | rfl | rfl | rfl <;> rfl
theorem zz_fin.gt1_2 {u w : Nat} {vv : Value} {sw : List (Int × Nat)} {q : Nat} {r : List Value} {g : aa_G} {t : Nat} (ht : t < 4) (hT : zz_T m pc = some (.getfield q, (7, 1, u, w), vv, sw)) (kk : zz_fin X m (pc + 3, lv, .int (g (5 * t + 14) 1) :: r, aa_H g) φ) : zz_fin X m (pc, lv, .ref (5 * t + 14) :: r, aa_H g) φ := by
  refine zz_fin.step1 hT ?_ kk
  rcases dt_four ht with rfl | rfl | rfl | rfl <;> rfl
theorem zz_fin.gt0_34 {u w : Nat} {vv : Value} {sw : List (Int × Nat)} {q : Nat} {r : List Value} {g : aa_G} {t : Nat} (ht : t < 4) (hT : zz_T m pc = some (.getfield q, (7, 0, u, w), vv, sw)) (kk : zz_fin X m (pc + 3, lv, .int (g (5 * t + 46) 0) :: r, aa_H g) φ) : zz_fin X m (pc, lv, .ref (5 * t + 46) :: r, aa_H g) φ := by
  refine zz_fin.step1 hT ?_ kk
  rcases dt_four ht with rfl | rfl | rfl | rfl <;> rfl
theorem zz_fin.gt1_34 {u w : Nat} {vv : Value} {sw : List (Int × Nat)} {q : Nat} {r : List Value} {g : aa_G} {t : Nat} (ht : t < 4) (hT : zz_T m pc = some (.getfield q, (7, 1, u, w), vv, sw)) (kk : zz_fin X m (pc + 3, lv, .int (g (5 * t + 46) 1) :: r, aa_H g) φ) : zz_fin X m (pc, lv, .ref (5 * t + 46) :: r, aa_H g) φ := by
  refine zz_fin.step1 hT ?_ kk
  rcases dt_four ht with rfl | rfl | rfl | rfl <;> rfl
end AJ
theorem dt_fill_2_0 {g : aa_G} {i : Nat} (hi : i < 12) {y d k p : Int32} : zz_fin none 36 (0, zz_in [.ref 14, .int (Int32.ofNat i), .int y, .int d, .int k, .int p] (zz_nl 36), [], aa_H g) (fun v h => v = none ∧ h = aa_H (zz_w (zz_w (zz_w (zz_w g 15 i y) 16 i d) 17 i k) 18 i p)) := by
  refine zz_fin.steps (n := 3) (s' := (4, [some (.ref 14), some (.int (Int32.ofNat i)), some (.int y), some (.int d), some (.int k), some (.int p)], [.int 11, .int 0, .int (Int32.ofNat i)], aa_H g)) rfl ?_
  refine zz_fin.call rfl rfl (Nat.le_of_ble_eq_true rfl) (zz_within1 (.inl rfl) (lo := 0) (hi := 11) ⟨aa_le32.mpr (by rw [zz_ofN (by omega)]; show (0 : Int) ≤ _; omega), aa_le32.mpr (by rw [zz_ofN (by omega)]; show _ ≤ (11 : Int); omega)⟩) ?_
  rintro v h ⟨rfl, rfl⟩
  refine zz_fin.if rfl (fun c => ?_) (fun c => absurd rfl c)
  refine zz_fin.steps (n := 4) (s' := (17, [some (.ref 14), some (.int (Int32.ofNat i)), some (.int y), some (.int d), some (.int k), some (.int p)], [.int y, .int (Int32.ofNat i), .ref 15], aa_H g)) rfl ?_
  refine zz_fin.ias (n := 12) rfl rfl (zz_inbN hi (by omega)) ?_
  rw [zz_toN (by omega)]
  refine zz_fin.steps (n := 4) (s' := (24, [some (.ref 14), some (.int (Int32.ofNat i)), some (.int y), some (.int d), some (.int k), some (.int p)], [.int d, .int (Int32.ofNat i), .ref 16], aa_H (zz_w g 15 i y))) rfl ?_
  refine zz_fin.ias (n := 12) rfl rfl (zz_inbN hi (by omega)) ?_
  rw [zz_toN (by omega)]
  refine zz_fin.steps (n := 4) (s' := (32, [some (.ref 14), some (.int (Int32.ofNat i)), some (.int y), some (.int d), some (.int k), some (.int p)], [.int k, .int (Int32.ofNat i), .ref 17], aa_H (zz_w (zz_w g 15 i y) 16 i d))) rfl ?_
  refine zz_fin.ias (n := 12) rfl rfl (zz_inbN hi (by omega)) ?_
  rw [zz_toN (by omega)]
  refine zz_fin.steps (n := 4) (s' := (40, [some (.ref 14), some (.int (Int32.ofNat i)), some (.int y), some (.int d), some (.int k), some (.int p)], [.int p, .int (Int32.ofNat i), .ref 18], aa_H (zz_w (zz_w (zz_w g 15 i y) 16 i d) 17 i k))) rfl ?_
  refine zz_fin.ias (n := 12) rfl rfl (zz_inbN hi (by omega)) ?_
  rw [zz_toN (by omega)]
  exact zz_fin.at (n := 1) rfl ⟨rfl, rfl⟩
theorem dt_fill_2_1 {g : aa_G} {i : Nat} (hi : i < 12) {y d k p : Int32} : zz_fin none 36 (0, zz_in [.ref 19, .int (Int32.ofNat i), .int y, .int d, .int k, .int p] (zz_nl 36), [], aa_H g) (fun v h => v = none ∧ h = aa_H (zz_w (zz_w (zz_w (zz_w g 20 i y) 21 i d) 22 i k) 23 i p)) := by
  refine zz_fin.steps (n := 3) (s' := (4, [some (.ref 19), some (.int (Int32.ofNat i)), some (.int y), some (.int d), some (.int k), some (.int p)], [.int 11, .int 0, .int (Int32.ofNat i)], aa_H g)) rfl ?_
  refine zz_fin.call rfl rfl (Nat.le_of_ble_eq_true rfl) (zz_within1 (.inl rfl) (lo := 0) (hi := 11) ⟨aa_le32.mpr (by rw [zz_ofN (by omega)]; show (0 : Int) ≤ _; omega), aa_le32.mpr (by rw [zz_ofN (by omega)]; show _ ≤ (11 : Int); omega)⟩) ?_
  rintro v h ⟨rfl, rfl⟩
  refine zz_fin.if rfl (fun c => ?_) (fun c => absurd rfl c)
  refine zz_fin.steps (n := 4) (s' := (17, [some (.ref 19), some (.int (Int32.ofNat i)), some (.int y), some (.int d), some (.int k), some (.int p)], [.int y, .int (Int32.ofNat i), .ref 20], aa_H g)) rfl ?_
  refine zz_fin.ias (n := 12) rfl rfl (zz_inbN hi (by omega)) ?_
  rw [zz_toN (by omega)]
  refine zz_fin.steps (n := 4) (s' := (24, [some (.ref 19), some (.int (Int32.ofNat i)), some (.int y), some (.int d), some (.int k), some (.int p)], [.int d, .int (Int32.ofNat i), .ref 21], aa_H (zz_w g 20 i y))) rfl ?_
  refine zz_fin.ias (n := 12) rfl rfl (zz_inbN hi (by omega)) ?_
  rw [zz_toN (by omega)]
  refine zz_fin.steps (n := 4) (s' := (32, [some (.ref 19), some (.int (Int32.ofNat i)), some (.int y), some (.int d), some (.int k), some (.int p)], [.int k, .int (Int32.ofNat i), .ref 22], aa_H (zz_w (zz_w g 20 i y) 21 i d))) rfl ?_
  refine zz_fin.ias (n := 12) rfl rfl (zz_inbN hi (by omega)) ?_
  rw [zz_toN (by omega)]
  refine zz_fin.steps (n := 4) (s' := (40, [some (.ref 19), some (.int (Int32.ofNat i)), some (.int y), some (.int d), some (.int k), some (.int p)], [.int p, .int (Int32.ofNat i), .ref 23], aa_H (zz_w (zz_w (zz_w g 20 i y) 21 i d) 22 i k))) rfl ?_
  refine zz_fin.ias (n := 12) rfl rfl (zz_inbN hi (by omega)) ?_
  rw [zz_toN (by omega)]
  exact zz_fin.at (n := 1) rfl ⟨rfl, rfl⟩
theorem dt_fill_2_2 {g : aa_G} {i : Nat} (hi : i < 12) {y d k p : Int32} : zz_fin none 36 (0, zz_in [.ref 24, .int (Int32.ofNat i), .int y, .int d, .int k, .int p] (zz_nl 36), [], aa_H g) (fun v h => v = none ∧ h = aa_H (zz_w (zz_w (zz_w (zz_w g 25 i y) 26 i d) 27 i k) 28 i p)) := by
  refine zz_fin.steps (n := 3) (s' := (4, [some (.ref 24), some (.int (Int32.ofNat i)), some (.int y), some (.int d), some (.int k), some (.int p)], [.int 11, .int 0, .int (Int32.ofNat i)], aa_H g)) rfl ?_
  refine zz_fin.call rfl rfl (Nat.le_of_ble_eq_true rfl) (zz_within1 (.inl rfl) (lo := 0) (hi := 11) ⟨aa_le32.mpr (by rw [zz_ofN (by omega)]; show (0 : Int) ≤ _; omega), aa_le32.mpr (by rw [zz_ofN (by omega)]; show _ ≤ (11 : Int); omega)⟩) ?_
  rintro v h ⟨rfl, rfl⟩
  refine zz_fin.if rfl (fun c => ?_) (fun c => absurd rfl c)
  refine zz_fin.steps (n := 4) (s' := (17, [some (.ref 24), some (.int (Int32.ofNat i)), some (.int y), some (.int d), some (.int k), some (.int p)], [.int y, .int (Int32.ofNat i), .ref 25], aa_H g)) rfl ?_
  refine zz_fin.ias (n := 12) rfl rfl (zz_inbN hi (by omega)) ?_
  rw [zz_toN (by omega)]
  refine zz_fin.steps (n := 4) (s' := (24, [some (.ref 24), some (.int (Int32.ofNat i)), some (.int y), some (.int d), some (.int k), some (.int p)], [.int d, .int (Int32.ofNat i), .ref 26], aa_H (zz_w g 25 i y))) rfl ?_
  refine zz_fin.ias (n := 12) rfl rfl (zz_inbN hi (by omega)) ?_
  rw [zz_toN (by omega)]
  refine zz_fin.steps (n := 4) (s' := (32, [some (.ref 24), some (.int (Int32.ofNat i)), some (.int y), some (.int d), some (.int k), some (.int p)], [.int k, .int (Int32.ofNat i), .ref 27], aa_H (zz_w (zz_w g 25 i y) 26 i d))) rfl ?_
  refine zz_fin.ias (n := 12) rfl rfl (zz_inbN hi (by omega)) ?_
  rw [zz_toN (by omega)]
  refine zz_fin.steps (n := 4) (s' := (40, [some (.ref 24), some (.int (Int32.ofNat i)), some (.int y), some (.int d), some (.int k), some (.int p)], [.int p, .int (Int32.ofNat i), .ref 28], aa_H (zz_w (zz_w (zz_w g 25 i y) 26 i d) 27 i k))) rfl ?_
  refine zz_fin.ias (n := 12) rfl rfl (zz_inbN hi (by omega)) ?_
  rw [zz_toN (by omega)]
  exact zz_fin.at (n := 1) rfl ⟨rfl, rfl⟩
theorem dt_fill_2_3 {g : aa_G} {i : Nat} (hi : i < 12) {y d k p : Int32} : zz_fin none 36 (0, zz_in [.ref 29, .int (Int32.ofNat i), .int y, .int d, .int k, .int p] (zz_nl 36), [], aa_H g) (fun v h => v = none ∧ h = aa_H (zz_w (zz_w (zz_w (zz_w g 30 i y) 31 i d) 32 i k) 33 i p)) := by
  refine zz_fin.steps (n := 3) (s' := (4, [some (.ref 29), some (.int (Int32.ofNat i)), some (.int y), some (.int d), some (.int k), some (.int p)], [.int 11, .int 0, .int (Int32.ofNat i)], aa_H g)) rfl ?_
  refine zz_fin.call rfl rfl (Nat.le_of_ble_eq_true rfl) (zz_within1 (.inl rfl) (lo := 0) (hi := 11) ⟨aa_le32.mpr (by rw [zz_ofN (by omega)]; show (0 : Int) ≤ _; omega), aa_le32.mpr (by rw [zz_ofN (by omega)]; show _ ≤ (11 : Int); omega)⟩) ?_
  rintro v h ⟨rfl, rfl⟩
  refine zz_fin.if rfl (fun c => ?_) (fun c => absurd rfl c)
  refine zz_fin.steps (n := 4) (s' := (17, [some (.ref 29), some (.int (Int32.ofNat i)), some (.int y), some (.int d), some (.int k), some (.int p)], [.int y, .int (Int32.ofNat i), .ref 30], aa_H g)) rfl ?_
  refine zz_fin.ias (n := 12) rfl rfl (zz_inbN hi (by omega)) ?_
  rw [zz_toN (by omega)]
  refine zz_fin.steps (n := 4) (s' := (24, [some (.ref 29), some (.int (Int32.ofNat i)), some (.int y), some (.int d), some (.int k), some (.int p)], [.int d, .int (Int32.ofNat i), .ref 31], aa_H (zz_w g 30 i y))) rfl ?_
  refine zz_fin.ias (n := 12) rfl rfl (zz_inbN hi (by omega)) ?_
  rw [zz_toN (by omega)]
  refine zz_fin.steps (n := 4) (s' := (32, [some (.ref 29), some (.int (Int32.ofNat i)), some (.int y), some (.int d), some (.int k), some (.int p)], [.int k, .int (Int32.ofNat i), .ref 32], aa_H (zz_w (zz_w g 30 i y) 31 i d))) rfl ?_
  refine zz_fin.ias (n := 12) rfl rfl (zz_inbN hi (by omega)) ?_
  rw [zz_toN (by omega)]
  refine zz_fin.steps (n := 4) (s' := (40, [some (.ref 29), some (.int (Int32.ofNat i)), some (.int y), some (.int d), some (.int k), some (.int p)], [.int p, .int (Int32.ofNat i), .ref 33], aa_H (zz_w (zz_w (zz_w g 30 i y) 31 i d) 32 i k))) rfl ?_
  refine zz_fin.ias (n := 12) rfl rfl (zz_inbN hi (by omega)) ?_
  rw [zz_toN (by omega)]
  exact zz_fin.at (n := 1) rfl ⟨rfl, rfl⟩
theorem dt_fill_2 {t : Nat} (ht : t < 4) {g : aa_G} {i : Nat} (hi : i < 12) {y d k p : Int32} : zz_fin none 36 (0, zz_in [.ref (5 * t + 14), .int (Int32.ofNat i), .int y, .int d, .int k, .int p] (zz_nl 36), [], aa_H g) (fun v h => v = none ∧ h = aa_H (zz_w (zz_w (zz_w (zz_w g (5 * t + 15) i y) (5 * t + 16) i d) (5 * t + 17) i k) (5 * t + 18) i p)) := by
  rcases dt_four ht with rfl | rfl | rfl | rfl
  · exact dt_fill_2_0 hi
  · exact dt_fill_2_1 hi
  · exact dt_fill_2_2 hi
  · exact dt_fill_2_3 hi
theorem dt_fill_34_0 {g : aa_G} {i : Nat} (hi : i < 12) {y d k p : Int32} : zz_fin none 36 (0, zz_in [.ref 46, .int (Int32.ofNat i), .int y, .int d, .int k, .int p] (zz_nl 36), [], aa_H g) (fun v h => v = none ∧ h = aa_H (zz_w (zz_w (zz_w (zz_w g 47 i y) 48 i d) 49 i k) 50 i p)) := by
  refine zz_fin.steps (n := 3) (s' := (4, [some (.ref 46), some (.int (Int32.ofNat i)), some (.int y), some (.int d), some (.int k), some (.int p)], [.int 11, .int 0, .int (Int32.ofNat i)], aa_H g)) rfl ?_
  refine zz_fin.call rfl rfl (Nat.le_of_ble_eq_true rfl) (zz_within1 (.inl rfl) (lo := 0) (hi := 11) ⟨aa_le32.mpr (by rw [zz_ofN (by omega)]; show (0 : Int) ≤ _; omega), aa_le32.mpr (by rw [zz_ofN (by omega)]; show _ ≤ (11 : Int); omega)⟩) ?_
  rintro v h ⟨rfl, rfl⟩
  refine zz_fin.if rfl (fun c => ?_) (fun c => absurd rfl c)
  refine zz_fin.steps (n := 4) (s' := (17, [some (.ref 46), some (.int (Int32.ofNat i)), some (.int y), some (.int d), some (.int k), some (.int p)], [.int y, .int (Int32.ofNat i), .ref 47], aa_H g)) rfl ?_
  refine zz_fin.ias (n := 12) rfl rfl (zz_inbN hi (by omega)) ?_
  rw [zz_toN (by omega)]
  refine zz_fin.steps (n := 4) (s' := (24, [some (.ref 46), some (.int (Int32.ofNat i)), some (.int y), some (.int d), some (.int k), some (.int p)], [.int d, .int (Int32.ofNat i), .ref 48], aa_H (zz_w g 47 i y))) rfl ?_
  refine zz_fin.ias (n := 12) rfl rfl (zz_inbN hi (by omega)) ?_
  rw [zz_toN (by omega)]
  refine zz_fin.steps (n := 4) (s' := (32, [some (.ref 46), some (.int (Int32.ofNat i)), some (.int y), some (.int d), some (.int k), some (.int p)], [.int k, .int (Int32.ofNat i), .ref 49], aa_H (zz_w (zz_w g 47 i y) 48 i d))) rfl ?_
  refine zz_fin.ias (n := 12) rfl rfl (zz_inbN hi (by omega)) ?_
  rw [zz_toN (by omega)]
  refine zz_fin.steps (n := 4) (s' := (40, [some (.ref 46), some (.int (Int32.ofNat i)), some (.int y), some (.int d), some (.int k), some (.int p)], [.int p, .int (Int32.ofNat i), .ref 50], aa_H (zz_w (zz_w (zz_w g 47 i y) 48 i d) 49 i k))) rfl ?_
  refine zz_fin.ias (n := 12) rfl rfl (zz_inbN hi (by omega)) ?_
  rw [zz_toN (by omega)]
  exact zz_fin.at (n := 1) rfl ⟨rfl, rfl⟩
theorem dt_fill_34_1 {g : aa_G} {i : Nat} (hi : i < 12) {y d k p : Int32} : zz_fin none 36 (0, zz_in [.ref 51, .int (Int32.ofNat i), .int y, .int d, .int k, .int p] (zz_nl 36), [], aa_H g) (fun v h => v = none ∧ h = aa_H (zz_w (zz_w (zz_w (zz_w g 52 i y) 53 i d) 54 i k) 55 i p)) := by
  refine zz_fin.steps (n := 3) (s' := (4, [some (.ref 51), some (.int (Int32.ofNat i)), some (.int y), some (.int d), some (.int k), some (.int p)], [.int 11, .int 0, .int (Int32.ofNat i)], aa_H g)) rfl ?_
  refine zz_fin.call rfl rfl (Nat.le_of_ble_eq_true rfl) (zz_within1 (.inl rfl) (lo := 0) (hi := 11) ⟨aa_le32.mpr (by rw [zz_ofN (by omega)]; show (0 : Int) ≤ _; omega), aa_le32.mpr (by rw [zz_ofN (by omega)]; show _ ≤ (11 : Int); omega)⟩) ?_
  rintro v h ⟨rfl, rfl⟩
  refine zz_fin.if rfl (fun c => ?_) (fun c => absurd rfl c)
  refine zz_fin.steps (n := 4) (s' := (17, [some (.ref 51), some (.int (Int32.ofNat i)), some (.int y), some (.int d), some (.int k), some (.int p)], [.int y, .int (Int32.ofNat i), .ref 52], aa_H g)) rfl ?_
  refine zz_fin.ias (n := 12) rfl rfl (zz_inbN hi (by omega)) ?_
  rw [zz_toN (by omega)]
  refine zz_fin.steps (n := 4) (s' := (24, [some (.ref 51), some (.int (Int32.ofNat i)), some (.int y), some (.int d), some (.int k), some (.int p)], [.int d, .int (Int32.ofNat i), .ref 53], aa_H (zz_w g 52 i y))) rfl ?_
  refine zz_fin.ias (n := 12) rfl rfl (zz_inbN hi (by omega)) ?_
  rw [zz_toN (by omega)]
  refine zz_fin.steps (n := 4) (s' := (32, [some (.ref 51), some (.int (Int32.ofNat i)), some (.int y), some (.int d), some (.int k), some (.int p)], [.int k, .int (Int32.ofNat i), .ref 54], aa_H (zz_w (zz_w g 52 i y) 53 i d))) rfl ?_
  refine zz_fin.ias (n := 12) rfl rfl (zz_inbN hi (by omega)) ?_
  rw [zz_toN (by omega)]
  refine zz_fin.steps (n := 4) (s' := (40, [some (.ref 51), some (.int (Int32.ofNat i)), some (.int y), some (.int d), some (.int k), some (.int p)], [.int p, .int (Int32.ofNat i), .ref 55], aa_H (zz_w (zz_w (zz_w g 52 i y) 53 i d) 54 i k))) rfl ?_
  refine zz_fin.ias (n := 12) rfl rfl (zz_inbN hi (by omega)) ?_
  rw [zz_toN (by omega)]
  exact zz_fin.at (n := 1) rfl ⟨rfl, rfl⟩
theorem dt_fill_34_2 {g : aa_G} {i : Nat} (hi : i < 12) {y d k p : Int32} : zz_fin none 36 (0, zz_in [.ref 56, .int (Int32.ofNat i), .int y, .int d, .int k, .int p] (zz_nl 36), [], aa_H g) (fun v h => v = none ∧ h = aa_H (zz_w (zz_w (zz_w (zz_w g 57 i y) 58 i d) 59 i k) 60 i p)) := by
  refine zz_fin.steps (n := 3) (s' := (4, [some (.ref 56), some (.int (Int32.ofNat i)), some (.int y), some (.int d), some (.int k), some (.int p)], [.int 11, .int 0, .int (Int32.ofNat i)], aa_H g)) rfl ?_
  refine zz_fin.call rfl rfl (Nat.le_of_ble_eq_true rfl) (zz_within1 (.inl rfl) (lo := 0) (hi := 11) ⟨aa_le32.mpr (by rw [zz_ofN (by omega)]; show (0 : Int) ≤ _; omega), aa_le32.mpr (by rw [zz_ofN (by omega)]; show _ ≤ (11 : Int); omega)⟩) ?_
  rintro v h ⟨rfl, rfl⟩
  refine zz_fin.if rfl (fun c => ?_) (fun c => absurd rfl c)
  refine zz_fin.steps (n := 4) (s' := (17, [some (.ref 56), some (.int (Int32.ofNat i)), some (.int y), some (.int d), some (.int k), some (.int p)], [.int y, .int (Int32.ofNat i), .ref 57], aa_H g)) rfl ?_
  refine zz_fin.ias (n := 12) rfl rfl (zz_inbN hi (by omega)) ?_
  rw [zz_toN (by omega)]
  refine zz_fin.steps (n := 4) (s' := (24, [some (.ref 56), some (.int (Int32.ofNat i)), some (.int y), some (.int d), some (.int k), some (.int p)], [.int d, .int (Int32.ofNat i), .ref 58], aa_H (zz_w g 57 i y))) rfl ?_
  refine zz_fin.ias (n := 12) rfl rfl (zz_inbN hi (by omega)) ?_
  rw [zz_toN (by omega)]
  refine zz_fin.steps (n := 4) (s' := (32, [some (.ref 56), some (.int (Int32.ofNat i)), some (.int y), some (.int d), some (.int k), some (.int p)], [.int k, .int (Int32.ofNat i), .ref 59], aa_H (zz_w (zz_w g 57 i y) 58 i d))) rfl ?_
  refine zz_fin.ias (n := 12) rfl rfl (zz_inbN hi (by omega)) ?_
  rw [zz_toN (by omega)]
  refine zz_fin.steps (n := 4) (s' := (40, [some (.ref 56), some (.int (Int32.ofNat i)), some (.int y), some (.int d), some (.int k), some (.int p)], [.int p, .int (Int32.ofNat i), .ref 60], aa_H (zz_w (zz_w (zz_w g 57 i y) 58 i d) 59 i k))) rfl ?_
  refine zz_fin.ias (n := 12) rfl rfl (zz_inbN hi (by omega)) ?_
  rw [zz_toN (by omega)]
  exact zz_fin.at (n := 1) rfl ⟨rfl, rfl⟩
theorem dt_fill_34_3 {g : aa_G} {i : Nat} (hi : i < 12) {y d k p : Int32} : zz_fin none 36 (0, zz_in [.ref 61, .int (Int32.ofNat i), .int y, .int d, .int k, .int p] (zz_nl 36), [], aa_H g) (fun v h => v = none ∧ h = aa_H (zz_w (zz_w (zz_w (zz_w g 62 i y) 63 i d) 64 i k) 65 i p)) := by
  refine zz_fin.steps (n := 3) (s' := (4, [some (.ref 61), some (.int (Int32.ofNat i)), some (.int y), some (.int d), some (.int k), some (.int p)], [.int 11, .int 0, .int (Int32.ofNat i)], aa_H g)) rfl ?_
  refine zz_fin.call rfl rfl (Nat.le_of_ble_eq_true rfl) (zz_within1 (.inl rfl) (lo := 0) (hi := 11) ⟨aa_le32.mpr (by rw [zz_ofN (by omega)]; show (0 : Int) ≤ _; omega), aa_le32.mpr (by rw [zz_ofN (by omega)]; show _ ≤ (11 : Int); omega)⟩) ?_
  rintro v h ⟨rfl, rfl⟩
  refine zz_fin.if rfl (fun c => ?_) (fun c => absurd rfl c)
  refine zz_fin.steps (n := 4) (s' := (17, [some (.ref 61), some (.int (Int32.ofNat i)), some (.int y), some (.int d), some (.int k), some (.int p)], [.int y, .int (Int32.ofNat i), .ref 62], aa_H g)) rfl ?_
  refine zz_fin.ias (n := 12) rfl rfl (zz_inbN hi (by omega)) ?_
  rw [zz_toN (by omega)]
  refine zz_fin.steps (n := 4) (s' := (24, [some (.ref 61), some (.int (Int32.ofNat i)), some (.int y), some (.int d), some (.int k), some (.int p)], [.int d, .int (Int32.ofNat i), .ref 63], aa_H (zz_w g 62 i y))) rfl ?_
  refine zz_fin.ias (n := 12) rfl rfl (zz_inbN hi (by omega)) ?_
  rw [zz_toN (by omega)]
  refine zz_fin.steps (n := 4) (s' := (32, [some (.ref 61), some (.int (Int32.ofNat i)), some (.int y), some (.int d), some (.int k), some (.int p)], [.int k, .int (Int32.ofNat i), .ref 64], aa_H (zz_w (zz_w g 62 i y) 63 i d))) rfl ?_
  refine zz_fin.ias (n := 12) rfl rfl (zz_inbN hi (by omega)) ?_
  rw [zz_toN (by omega)]
  refine zz_fin.steps (n := 4) (s' := (40, [some (.ref 61), some (.int (Int32.ofNat i)), some (.int y), some (.int d), some (.int k), some (.int p)], [.int p, .int (Int32.ofNat i), .ref 65], aa_H (zz_w (zz_w (zz_w g 62 i y) 63 i d) 64 i k))) rfl ?_
  refine zz_fin.ias (n := 12) rfl rfl (zz_inbN hi (by omega)) ?_
  rw [zz_toN (by omega)]
  exact zz_fin.at (n := 1) rfl ⟨rfl, rfl⟩
theorem dt_fill_34 {t : Nat} (ht : t < 4) {g : aa_G} {i : Nat} (hi : i < 12) {y d k p : Int32} : zz_fin none 36 (0, zz_in [.ref (5 * t + 46), .int (Int32.ofNat i), .int y, .int d, .int k, .int p] (zz_nl 36), [], aa_H g) (fun v h => v = none ∧ h = aa_H (zz_w (zz_w (zz_w (zz_w g (5 * t + 47) i y) (5 * t + 48) i d) (5 * t + 49) i k) (5 * t + 50) i p)) := by
  rcases dt_four ht with rfl | rfl | rfl | rfl
  · exact dt_fill_34_0 hi
  · exact dt_fill_34_1 hi
  · exact dt_fill_34_2 hi
  · exact dt_fill_34_3 hi
theorem dt_app_2_0 {g : aa_G} {i : Nat} (hi : i < 12) (hc : g 14 1 = Int32.ofNat i) {y d k p : Int32} : zz_fin none 35 (0, zz_in [.ref 14, .int y, .int d, .int k, .int p] (zz_nl 35), [], aa_H g) (fun v h => v = none ∧ h = aa_H (zz_w (zz_w (zz_w (zz_w (zz_w g 15 i y) 16 i d) 17 i k) 18 i p) 14 1 (Int32.ofNat (i + 1)))) := by
  refine zz_fin.steps (n := 3) (s' := (6, [some (.ref 14), some (.int y), some (.int d), some (.int k), some (.int p)], [.int 12, .int (g 14 1)], aa_H g)) rfl ?_
  rw [hc]
  refine zz_fin.ic rfl (fun c1 => ?_) (fun c1 => ?_)
  · have c1 : (12 : Int32).toInt ≤ (Int32.ofNat i).toInt := aa_le32.mp (of_decide_eq_true c1)
    rw [zz_ofN (by omega), show (12 : Int32).toInt = 12 from rfl] at c1
    omega
  · refine zz_fin.steps (n := 3) (s' := (14, [some (.ref 14), some (.int y), some (.int d), some (.int k), some (.int p)], [.int (g 14 1), .ref 14], aa_H g)) rfl ?_
    rw [hc]
    refine zz_fin.steps (n := 4) (s' := (19, [some (.ref 14), some (.int y), some (.int d), some (.int k), some (.int p)], [.int p, .int k, .int d, .int y, .int (Int32.ofNat i), .ref 14], aa_H g)) rfl ?_
    refine zz_fin.call rfl rfl (Nat.le_of_ble_eq_true rfl) (dt_fill_2_0 hi) ?_
    rintro v h ⟨rfl, rfl⟩
    refine zz_fin.steps (n := 5) (s' := (29, [some (.ref 14), some (.int y), some (.int d), some (.int k), some (.int p)], [.int ((g 14 1) + 1), .ref 14], aa_H (zz_w (zz_w (zz_w (zz_w g 15 i y) 16 i d) 17 i k) 18 i p))) rfl ?_
    rw [hc, aa_succ]
    refine zz_fin.steps (n := 1) (s' := (32, [some (.ref 14), some (.int y), some (.int d), some (.int k), some (.int p)], [], aa_H (zz_w (zz_w (zz_w (zz_w (zz_w g 15 i y) 16 i d) 17 i k) 18 i p) 14 1 (Int32.ofNat (i + 1))))) rfl ?_
    exact zz_fin.at (n := 1) rfl ⟨rfl, rfl⟩
theorem dt_app_2_1 {g : aa_G} {i : Nat} (hi : i < 12) (hc : g 19 1 = Int32.ofNat i) {y d k p : Int32} : zz_fin none 35 (0, zz_in [.ref 19, .int y, .int d, .int k, .int p] (zz_nl 35), [], aa_H g) (fun v h => v = none ∧ h = aa_H (zz_w (zz_w (zz_w (zz_w (zz_w g 20 i y) 21 i d) 22 i k) 23 i p) 19 1 (Int32.ofNat (i + 1)))) := by
  refine zz_fin.steps (n := 3) (s' := (6, [some (.ref 19), some (.int y), some (.int d), some (.int k), some (.int p)], [.int 12, .int (g 19 1)], aa_H g)) rfl ?_
  rw [hc]
  refine zz_fin.ic rfl (fun c1 => ?_) (fun c1 => ?_)
  · have c1 : (12 : Int32).toInt ≤ (Int32.ofNat i).toInt := aa_le32.mp (of_decide_eq_true c1)
    rw [zz_ofN (by omega), show (12 : Int32).toInt = 12 from rfl] at c1
    omega
  · refine zz_fin.steps (n := 3) (s' := (14, [some (.ref 19), some (.int y), some (.int d), some (.int k), some (.int p)], [.int (g 19 1), .ref 19], aa_H g)) rfl ?_
    rw [hc]
    refine zz_fin.steps (n := 4) (s' := (19, [some (.ref 19), some (.int y), some (.int d), some (.int k), some (.int p)], [.int p, .int k, .int d, .int y, .int (Int32.ofNat i), .ref 19], aa_H g)) rfl ?_
    refine zz_fin.call rfl rfl (Nat.le_of_ble_eq_true rfl) (dt_fill_2_1 hi) ?_
    rintro v h ⟨rfl, rfl⟩
    refine zz_fin.steps (n := 5) (s' := (29, [some (.ref 19), some (.int y), some (.int d), some (.int k), some (.int p)], [.int ((g 19 1) + 1), .ref 19], aa_H (zz_w (zz_w (zz_w (zz_w g 20 i y) 21 i d) 22 i k) 23 i p))) rfl ?_
    rw [hc, aa_succ]
    refine zz_fin.steps (n := 1) (s' := (32, [some (.ref 19), some (.int y), some (.int d), some (.int k), some (.int p)], [], aa_H (zz_w (zz_w (zz_w (zz_w (zz_w g 20 i y) 21 i d) 22 i k) 23 i p) 19 1 (Int32.ofNat (i + 1))))) rfl ?_
    exact zz_fin.at (n := 1) rfl ⟨rfl, rfl⟩
theorem dt_app_2_2 {g : aa_G} {i : Nat} (hi : i < 12) (hc : g 24 1 = Int32.ofNat i) {y d k p : Int32} : zz_fin none 35 (0, zz_in [.ref 24, .int y, .int d, .int k, .int p] (zz_nl 35), [], aa_H g) (fun v h => v = none ∧ h = aa_H (zz_w (zz_w (zz_w (zz_w (zz_w g 25 i y) 26 i d) 27 i k) 28 i p) 24 1 (Int32.ofNat (i + 1)))) := by
  refine zz_fin.steps (n := 3) (s' := (6, [some (.ref 24), some (.int y), some (.int d), some (.int k), some (.int p)], [.int 12, .int (g 24 1)], aa_H g)) rfl ?_
  rw [hc]
  refine zz_fin.ic rfl (fun c1 => ?_) (fun c1 => ?_)
  · have c1 : (12 : Int32).toInt ≤ (Int32.ofNat i).toInt := aa_le32.mp (of_decide_eq_true c1)
    rw [zz_ofN (by omega), show (12 : Int32).toInt = 12 from rfl] at c1
    omega
  · refine zz_fin.steps (n := 3) (s' := (14, [some (.ref 24), some (.int y), some (.int d), some (.int k), some (.int p)], [.int (g 24 1), .ref 24], aa_H g)) rfl ?_
    rw [hc]
    refine zz_fin.steps (n := 4) (s' := (19, [some (.ref 24), some (.int y), some (.int d), some (.int k), some (.int p)], [.int p, .int k, .int d, .int y, .int (Int32.ofNat i), .ref 24], aa_H g)) rfl ?_
    refine zz_fin.call rfl rfl (Nat.le_of_ble_eq_true rfl) (dt_fill_2_2 hi) ?_
    rintro v h ⟨rfl, rfl⟩
    refine zz_fin.steps (n := 5) (s' := (29, [some (.ref 24), some (.int y), some (.int d), some (.int k), some (.int p)], [.int ((g 24 1) + 1), .ref 24], aa_H (zz_w (zz_w (zz_w (zz_w g 25 i y) 26 i d) 27 i k) 28 i p))) rfl ?_
    rw [hc, aa_succ]
    refine zz_fin.steps (n := 1) (s' := (32, [some (.ref 24), some (.int y), some (.int d), some (.int k), some (.int p)], [], aa_H (zz_w (zz_w (zz_w (zz_w (zz_w g 25 i y) 26 i d) 27 i k) 28 i p) 24 1 (Int32.ofNat (i + 1))))) rfl ?_
    exact zz_fin.at (n := 1) rfl ⟨rfl, rfl⟩
theorem dt_app_2_3 {g : aa_G} {i : Nat} (hi : i < 12) (hc : g 29 1 = Int32.ofNat i) {y d k p : Int32} : zz_fin none 35 (0, zz_in [.ref 29, .int y, .int d, .int k, .int p] (zz_nl 35), [], aa_H g) (fun v h => v = none ∧ h = aa_H (zz_w (zz_w (zz_w (zz_w (zz_w g 30 i y) 31 i d) 32 i k) 33 i p) 29 1 (Int32.ofNat (i + 1)))) := by
  refine zz_fin.steps (n := 3) (s' := (6, [some (.ref 29), some (.int y), some (.int d), some (.int k), some (.int p)], [.int 12, .int (g 29 1)], aa_H g)) rfl ?_
  rw [hc]
  refine zz_fin.ic rfl (fun c1 => ?_) (fun c1 => ?_)
  · have c1 : (12 : Int32).toInt ≤ (Int32.ofNat i).toInt := aa_le32.mp (of_decide_eq_true c1)
    rw [zz_ofN (by omega), show (12 : Int32).toInt = 12 from rfl] at c1
    omega
  · refine zz_fin.steps (n := 3) (s' := (14, [some (.ref 29), some (.int y), some (.int d), some (.int k), some (.int p)], [.int (g 29 1), .ref 29], aa_H g)) rfl ?_
    rw [hc]
    refine zz_fin.steps (n := 4) (s' := (19, [some (.ref 29), some (.int y), some (.int d), some (.int k), some (.int p)], [.int p, .int k, .int d, .int y, .int (Int32.ofNat i), .ref 29], aa_H g)) rfl ?_
    refine zz_fin.call rfl rfl (Nat.le_of_ble_eq_true rfl) (dt_fill_2_3 hi) ?_
    rintro v h ⟨rfl, rfl⟩
    refine zz_fin.steps (n := 5) (s' := (29, [some (.ref 29), some (.int y), some (.int d), some (.int k), some (.int p)], [.int ((g 29 1) + 1), .ref 29], aa_H (zz_w (zz_w (zz_w (zz_w g 30 i y) 31 i d) 32 i k) 33 i p))) rfl ?_
    rw [hc, aa_succ]
    refine zz_fin.steps (n := 1) (s' := (32, [some (.ref 29), some (.int y), some (.int d), some (.int k), some (.int p)], [], aa_H (zz_w (zz_w (zz_w (zz_w (zz_w g 30 i y) 31 i d) 32 i k) 33 i p) 29 1 (Int32.ofNat (i + 1))))) rfl ?_
    exact zz_fin.at (n := 1) rfl ⟨rfl, rfl⟩
theorem dt_app_2 {t : Nat} (ht : t < 4) {g : aa_G} {i : Nat} (hi : i < 12) (hc : g (5 * t + 14) 1 = Int32.ofNat i) {y d k p : Int32} : zz_fin none 35 (0, zz_in [.ref (5 * t + 14), .int y, .int d, .int k, .int p] (zz_nl 35), [], aa_H g) (fun v h => v = none ∧ h = aa_H (zz_w (zz_w (zz_w (zz_w (zz_w g (5 * t + 15) i y) (5 * t + 16) i d) (5 * t + 17) i k) (5 * t + 18) i p) (5 * t + 14) 1 (Int32.ofNat (i + 1)))) := by
  rcases dt_four ht with rfl | rfl | rfl | rfl
  · exact dt_app_2_0 hi hc
  · exact dt_app_2_1 hi hc
  · exact dt_app_2_2 hi hc
  · exact dt_app_2_3 hi hc
theorem dt_app_34_0 {g : aa_G} {i : Nat} (hi : i < 12) (hc : g 46 1 = Int32.ofNat i) {y d k p : Int32} : zz_fin none 35 (0, zz_in [.ref 46, .int y, .int d, .int k, .int p] (zz_nl 35), [], aa_H g) (fun v h => v = none ∧ h = aa_H (zz_w (zz_w (zz_w (zz_w (zz_w g 47 i y) 48 i d) 49 i k) 50 i p) 46 1 (Int32.ofNat (i + 1)))) := by
  refine zz_fin.steps (n := 3) (s' := (6, [some (.ref 46), some (.int y), some (.int d), some (.int k), some (.int p)], [.int 12, .int (g 46 1)], aa_H g)) rfl ?_
  rw [hc]
  refine zz_fin.ic rfl (fun c1 => ?_) (fun c1 => ?_)
  · have c1 : (12 : Int32).toInt ≤ (Int32.ofNat i).toInt := aa_le32.mp (of_decide_eq_true c1)
    rw [zz_ofN (by omega), show (12 : Int32).toInt = 12 from rfl] at c1
    omega
  · refine zz_fin.steps (n := 3) (s' := (14, [some (.ref 46), some (.int y), some (.int d), some (.int k), some (.int p)], [.int (g 46 1), .ref 46], aa_H g)) rfl ?_
    rw [hc]
    refine zz_fin.steps (n := 4) (s' := (19, [some (.ref 46), some (.int y), some (.int d), some (.int k), some (.int p)], [.int p, .int k, .int d, .int y, .int (Int32.ofNat i), .ref 46], aa_H g)) rfl ?_
    refine zz_fin.call rfl rfl (Nat.le_of_ble_eq_true rfl) (dt_fill_34_0 hi) ?_
    rintro v h ⟨rfl, rfl⟩
    refine zz_fin.steps (n := 5) (s' := (29, [some (.ref 46), some (.int y), some (.int d), some (.int k), some (.int p)], [.int ((g 46 1) + 1), .ref 46], aa_H (zz_w (zz_w (zz_w (zz_w g 47 i y) 48 i d) 49 i k) 50 i p))) rfl ?_
    rw [hc, aa_succ]
    refine zz_fin.steps (n := 1) (s' := (32, [some (.ref 46), some (.int y), some (.int d), some (.int k), some (.int p)], [], aa_H (zz_w (zz_w (zz_w (zz_w (zz_w g 47 i y) 48 i d) 49 i k) 50 i p) 46 1 (Int32.ofNat (i + 1))))) rfl ?_
    exact zz_fin.at (n := 1) rfl ⟨rfl, rfl⟩
theorem dt_app_34_1 {g : aa_G} {i : Nat} (hi : i < 12) (hc : g 51 1 = Int32.ofNat i) {y d k p : Int32} : zz_fin none 35 (0, zz_in [.ref 51, .int y, .int d, .int k, .int p] (zz_nl 35), [], aa_H g) (fun v h => v = none ∧ h = aa_H (zz_w (zz_w (zz_w (zz_w (zz_w g 52 i y) 53 i d) 54 i k) 55 i p) 51 1 (Int32.ofNat (i + 1)))) := by
  refine zz_fin.steps (n := 3) (s' := (6, [some (.ref 51), some (.int y), some (.int d), some (.int k), some (.int p)], [.int 12, .int (g 51 1)], aa_H g)) rfl ?_
  rw [hc]
  refine zz_fin.ic rfl (fun c1 => ?_) (fun c1 => ?_)
  · have c1 : (12 : Int32).toInt ≤ (Int32.ofNat i).toInt := aa_le32.mp (of_decide_eq_true c1)
    rw [zz_ofN (by omega), show (12 : Int32).toInt = 12 from rfl] at c1
    omega
  · refine zz_fin.steps (n := 3) (s' := (14, [some (.ref 51), some (.int y), some (.int d), some (.int k), some (.int p)], [.int (g 51 1), .ref 51], aa_H g)) rfl ?_
    rw [hc]
    refine zz_fin.steps (n := 4) (s' := (19, [some (.ref 51), some (.int y), some (.int d), some (.int k), some (.int p)], [.int p, .int k, .int d, .int y, .int (Int32.ofNat i), .ref 51], aa_H g)) rfl ?_
    refine zz_fin.call rfl rfl (Nat.le_of_ble_eq_true rfl) (dt_fill_34_1 hi) ?_
    rintro v h ⟨rfl, rfl⟩
    refine zz_fin.steps (n := 5) (s' := (29, [some (.ref 51), some (.int y), some (.int d), some (.int k), some (.int p)], [.int ((g 51 1) + 1), .ref 51], aa_H (zz_w (zz_w (zz_w (zz_w g 52 i y) 53 i d) 54 i k) 55 i p))) rfl ?_
    rw [hc, aa_succ]
    refine zz_fin.steps (n := 1) (s' := (32, [some (.ref 51), some (.int y), some (.int d), some (.int k), some (.int p)], [], aa_H (zz_w (zz_w (zz_w (zz_w (zz_w g 52 i y) 53 i d) 54 i k) 55 i p) 51 1 (Int32.ofNat (i + 1))))) rfl ?_
    exact zz_fin.at (n := 1) rfl ⟨rfl, rfl⟩
theorem dt_app_34_2 {g : aa_G} {i : Nat} (hi : i < 12) (hc : g 56 1 = Int32.ofNat i) {y d k p : Int32} : zz_fin none 35 (0, zz_in [.ref 56, .int y, .int d, .int k, .int p] (zz_nl 35), [], aa_H g) (fun v h => v = none ∧ h = aa_H (zz_w (zz_w (zz_w (zz_w (zz_w g 57 i y) 58 i d) 59 i k) 60 i p) 56 1 (Int32.ofNat (i + 1)))) := by
  refine zz_fin.steps (n := 3) (s' := (6, [some (.ref 56), some (.int y), some (.int d), some (.int k), some (.int p)], [.int 12, .int (g 56 1)], aa_H g)) rfl ?_
  rw [hc]
  refine zz_fin.ic rfl (fun c1 => ?_) (fun c1 => ?_)
  · have c1 : (12 : Int32).toInt ≤ (Int32.ofNat i).toInt := aa_le32.mp (of_decide_eq_true c1)
    rw [zz_ofN (by omega), show (12 : Int32).toInt = 12 from rfl] at c1
    omega
  · refine zz_fin.steps (n := 3) (s' := (14, [some (.ref 56), some (.int y), some (.int d), some (.int k), some (.int p)], [.int (g 56 1), .ref 56], aa_H g)) rfl ?_
    rw [hc]
    refine zz_fin.steps (n := 4) (s' := (19, [some (.ref 56), some (.int y), some (.int d), some (.int k), some (.int p)], [.int p, .int k, .int d, .int y, .int (Int32.ofNat i), .ref 56], aa_H g)) rfl ?_
    refine zz_fin.call rfl rfl (Nat.le_of_ble_eq_true rfl) (dt_fill_34_2 hi) ?_
    rintro v h ⟨rfl, rfl⟩
    refine zz_fin.steps (n := 5) (s' := (29, [some (.ref 56), some (.int y), some (.int d), some (.int k), some (.int p)], [.int ((g 56 1) + 1), .ref 56], aa_H (zz_w (zz_w (zz_w (zz_w g 57 i y) 58 i d) 59 i k) 60 i p))) rfl ?_
    rw [hc, aa_succ]
    refine zz_fin.steps (n := 1) (s' := (32, [some (.ref 56), some (.int y), some (.int d), some (.int k), some (.int p)], [], aa_H (zz_w (zz_w (zz_w (zz_w (zz_w g 57 i y) 58 i d) 59 i k) 60 i p) 56 1 (Int32.ofNat (i + 1))))) rfl ?_
    exact zz_fin.at (n := 1) rfl ⟨rfl, rfl⟩
theorem dt_app_34_3 {g : aa_G} {i : Nat} (hi : i < 12) (hc : g 61 1 = Int32.ofNat i) {y d k p : Int32} : zz_fin none 35 (0, zz_in [.ref 61, .int y, .int d, .int k, .int p] (zz_nl 35), [], aa_H g) (fun v h => v = none ∧ h = aa_H (zz_w (zz_w (zz_w (zz_w (zz_w g 62 i y) 63 i d) 64 i k) 65 i p) 61 1 (Int32.ofNat (i + 1)))) := by
  refine zz_fin.steps (n := 3) (s' := (6, [some (.ref 61), some (.int y), some (.int d), some (.int k), some (.int p)], [.int 12, .int (g 61 1)], aa_H g)) rfl ?_
  rw [hc]
  refine zz_fin.ic rfl (fun c1 => ?_) (fun c1 => ?_)
  · have c1 : (12 : Int32).toInt ≤ (Int32.ofNat i).toInt := aa_le32.mp (of_decide_eq_true c1)
    rw [zz_ofN (by omega), show (12 : Int32).toInt = 12 from rfl] at c1
    omega
  · refine zz_fin.steps (n := 3) (s' := (14, [some (.ref 61), some (.int y), some (.int d), some (.int k), some (.int p)], [.int (g 61 1), .ref 61], aa_H g)) rfl ?_
    rw [hc]
    refine zz_fin.steps (n := 4) (s' := (19, [some (.ref 61), some (.int y), some (.int d), some (.int k), some (.int p)], [.int p, .int k, .int d, .int y, .int (Int32.ofNat i), .ref 61], aa_H g)) rfl ?_
    refine zz_fin.call rfl rfl (Nat.le_of_ble_eq_true rfl) (dt_fill_34_3 hi) ?_
    rintro v h ⟨rfl, rfl⟩
    refine zz_fin.steps (n := 5) (s' := (29, [some (.ref 61), some (.int y), some (.int d), some (.int k), some (.int p)], [.int ((g 61 1) + 1), .ref 61], aa_H (zz_w (zz_w (zz_w (zz_w g 62 i y) 63 i d) 64 i k) 65 i p))) rfl ?_
    rw [hc, aa_succ]
    refine zz_fin.steps (n := 1) (s' := (32, [some (.ref 61), some (.int y), some (.int d), some (.int k), some (.int p)], [], aa_H (zz_w (zz_w (zz_w (zz_w (zz_w g 62 i y) 63 i d) 64 i k) 65 i p) 61 1 (Int32.ofNat (i + 1))))) rfl ?_
    exact zz_fin.at (n := 1) rfl ⟨rfl, rfl⟩
theorem dt_app_34 {t : Nat} (ht : t < 4) {g : aa_G} {i : Nat} (hi : i < 12) (hc : g (5 * t + 46) 1 = Int32.ofNat i) {y d k p : Int32} : zz_fin none 35 (0, zz_in [.ref (5 * t + 46), .int y, .int d, .int k, .int p] (zz_nl 35), [], aa_H g) (fun v h => v = none ∧ h = aa_H (zz_w (zz_w (zz_w (zz_w (zz_w g (5 * t + 47) i y) (5 * t + 48) i d) (5 * t + 49) i k) (5 * t + 50) i p) (5 * t + 46) 1 (Int32.ofNat (i + 1)))) := by
  rcases dt_four ht with rfl | rfl | rfl | rfl
  · exact dt_app_34_0 hi hc
  · exact dt_app_34_1 hi hc
  · exact dt_app_34_2 hi hc
  · exact dt_app_34_3 hi hc
theorem dt_lat_2_0 {g : aa_G} {i : Nat} (hi : i ≤ 12) (hc : g 14 1 = Int32.ofNat i) : zz_fin none 32 (0, zz_in [.ref 14] (zz_nl 32), [], aa_H g) (fun v h => v = some (.int (if i = 0 then -1 else g 15 (i - 1))) ∧ h = aa_H g) := by
  refine zz_fin.steps (n := 4) (s' := (7, [some (.ref 14)], [.int 12, .int 1, .int (g 14 1)], aa_H g)) rfl ?_
  rw [hc]
  by_cases hz : i = 0
  · refine zz_fin.call rfl rfl (Nat.le_of_ble_eq_true rfl) (zz_within0 (.inl rfl) fun e => ?_) ?_
    · have e : (1 : Int32).toInt ≤ (Int32.ofNat i).toInt := aa_le32.mp e.1
      rw [hz] at e
      exact absurd e (by decide)
    · rintro v h ⟨rfl, rfl⟩
      refine zz_fin.if rfl (fun c => ?_) (fun c => zc_no0 c)
      refine zz_fin.steps (n := 1) (s' := (28, [some (.ref 14)], [.int (-1)], aa_H g)) rfl ?_
      exact zz_fin.at (n := 1) rfl ⟨by rw [if_pos hz], rfl⟩
  · refine zz_fin.call rfl rfl (Nat.le_of_ble_eq_true rfl) (zz_within1 (.inl rfl) ⟨aa_le32.mpr (by rw [zz_ofN (by omega)]; show (1 : Int) ≤ _; omega), aa_le32.mpr (by rw [zz_ofN (by omega)]; show _ ≤ (12 : Int); omega)⟩) ?_
    rintro v h ⟨rfl, rfl⟩
    refine zz_fin.if rfl (fun c => zc_no1 c) (fun c => ?_)
    refine zz_fin.steps (n := 6) (s' := (23, [some (.ref 14)], [.int ((g 14 1) - 1), .ref 15], aa_H g)) rfl ?_
    rw [hc, show Int32.ofNat i - 1 = Int32.ofNat (i - 1) from aa_eqN (by rw [aa_sub32 (by rw [zz_ofN (by omega), show (1 : Int32).toInt = 1 from rfl]; omega) (by rw [zz_ofN (by omega), show (1 : Int32).toInt = 1 from rfl]; omega), zz_ofN (by omega), show (1 : Int32).toInt = 1 from rfl]; omega) (by omega)]
    refine zz_fin.ial (n := 12) rfl rfl (zz_inbN (by omega) (by omega)) ?_
    rw [zz_toN (by omega)]
    refine zz_fin.steps (n := 1) (s' := (28, [some (.ref 14)], [.int (g 15 (i - 1))], aa_H g)) rfl ?_
    exact zz_fin.at (n := 1) rfl ⟨by rw [if_neg hz], rfl⟩
theorem dt_lat_2_1 {g : aa_G} {i : Nat} (hi : i ≤ 12) (hc : g 19 1 = Int32.ofNat i) : zz_fin none 32 (0, zz_in [.ref 19] (zz_nl 32), [], aa_H g) (fun v h => v = some (.int (if i = 0 then -1 else g 20 (i - 1))) ∧ h = aa_H g) := by
  refine zz_fin.steps (n := 4) (s' := (7, [some (.ref 19)], [.int 12, .int 1, .int (g 19 1)], aa_H g)) rfl ?_
  rw [hc]
  by_cases hz : i = 0
  · refine zz_fin.call rfl rfl (Nat.le_of_ble_eq_true rfl) (zz_within0 (.inl rfl) fun e => ?_) ?_
    · have e : (1 : Int32).toInt ≤ (Int32.ofNat i).toInt := aa_le32.mp e.1
      rw [hz] at e
      exact absurd e (by decide)
    · rintro v h ⟨rfl, rfl⟩
      refine zz_fin.if rfl (fun c => ?_) (fun c => zc_no0 c)
      refine zz_fin.steps (n := 1) (s' := (28, [some (.ref 19)], [.int (-1)], aa_H g)) rfl ?_
      exact zz_fin.at (n := 1) rfl ⟨by rw [if_pos hz], rfl⟩
  · refine zz_fin.call rfl rfl (Nat.le_of_ble_eq_true rfl) (zz_within1 (.inl rfl) ⟨aa_le32.mpr (by rw [zz_ofN (by omega)]; show (1 : Int) ≤ _; omega), aa_le32.mpr (by rw [zz_ofN (by omega)]; show _ ≤ (12 : Int); omega)⟩) ?_
    rintro v h ⟨rfl, rfl⟩
    refine zz_fin.if rfl (fun c => zc_no1 c) (fun c => ?_)
    refine zz_fin.steps (n := 6) (s' := (23, [some (.ref 19)], [.int ((g 19 1) - 1), .ref 20], aa_H g)) rfl ?_
    rw [hc, show Int32.ofNat i - 1 = Int32.ofNat (i - 1) from aa_eqN (by rw [aa_sub32 (by rw [zz_ofN (by omega), show (1 : Int32).toInt = 1 from rfl]; omega) (by rw [zz_ofN (by omega), show (1 : Int32).toInt = 1 from rfl]; omega), zz_ofN (by omega), show (1 : Int32).toInt = 1 from rfl]; omega) (by omega)]
    refine zz_fin.ial (n := 12) rfl rfl (zz_inbN (by omega) (by omega)) ?_
    rw [zz_toN (by omega)]
    refine zz_fin.steps (n := 1) (s' := (28, [some (.ref 19)], [.int (g 20 (i - 1))], aa_H g)) rfl ?_
    exact zz_fin.at (n := 1) rfl ⟨by rw [if_neg hz], rfl⟩
theorem dt_lat_2_2 {g : aa_G} {i : Nat} (hi : i ≤ 12) (hc : g 24 1 = Int32.ofNat i) : zz_fin none 32 (0, zz_in [.ref 24] (zz_nl 32), [], aa_H g) (fun v h => v = some (.int (if i = 0 then -1 else g 25 (i - 1))) ∧ h = aa_H g) := by
  refine zz_fin.steps (n := 4) (s' := (7, [some (.ref 24)], [.int 12, .int 1, .int (g 24 1)], aa_H g)) rfl ?_
  rw [hc]
  by_cases hz : i = 0
  · refine zz_fin.call rfl rfl (Nat.le_of_ble_eq_true rfl) (zz_within0 (.inl rfl) fun e => ?_) ?_
    · have e : (1 : Int32).toInt ≤ (Int32.ofNat i).toInt := aa_le32.mp e.1
      rw [hz] at e
      exact absurd e (by decide)
    · rintro v h ⟨rfl, rfl⟩
      refine zz_fin.if rfl (fun c => ?_) (fun c => zc_no0 c)
      refine zz_fin.steps (n := 1) (s' := (28, [some (.ref 24)], [.int (-1)], aa_H g)) rfl ?_
      exact zz_fin.at (n := 1) rfl ⟨by rw [if_pos hz], rfl⟩
  · refine zz_fin.call rfl rfl (Nat.le_of_ble_eq_true rfl) (zz_within1 (.inl rfl) ⟨aa_le32.mpr (by rw [zz_ofN (by omega)]; show (1 : Int) ≤ _; omega), aa_le32.mpr (by rw [zz_ofN (by omega)]; show _ ≤ (12 : Int); omega)⟩) ?_
    rintro v h ⟨rfl, rfl⟩
    refine zz_fin.if rfl (fun c => zc_no1 c) (fun c => ?_)
    refine zz_fin.steps (n := 6) (s' := (23, [some (.ref 24)], [.int ((g 24 1) - 1), .ref 25], aa_H g)) rfl ?_
    rw [hc, show Int32.ofNat i - 1 = Int32.ofNat (i - 1) from aa_eqN (by rw [aa_sub32 (by rw [zz_ofN (by omega), show (1 : Int32).toInt = 1 from rfl]; omega) (by rw [zz_ofN (by omega), show (1 : Int32).toInt = 1 from rfl]; omega), zz_ofN (by omega), show (1 : Int32).toInt = 1 from rfl]; omega) (by omega)]
    refine zz_fin.ial (n := 12) rfl rfl (zz_inbN (by omega) (by omega)) ?_
    rw [zz_toN (by omega)]
    refine zz_fin.steps (n := 1) (s' := (28, [some (.ref 24)], [.int (g 25 (i - 1))], aa_H g)) rfl ?_
    exact zz_fin.at (n := 1) rfl ⟨by rw [if_neg hz], rfl⟩
theorem dt_lat_2_3 {g : aa_G} {i : Nat} (hi : i ≤ 12) (hc : g 29 1 = Int32.ofNat i) : zz_fin none 32 (0, zz_in [.ref 29] (zz_nl 32), [], aa_H g) (fun v h => v = some (.int (if i = 0 then -1 else g 30 (i - 1))) ∧ h = aa_H g) := by
  refine zz_fin.steps (n := 4) (s' := (7, [some (.ref 29)], [.int 12, .int 1, .int (g 29 1)], aa_H g)) rfl ?_
  rw [hc]
  by_cases hz : i = 0
  · refine zz_fin.call rfl rfl (Nat.le_of_ble_eq_true rfl) (zz_within0 (.inl rfl) fun e => ?_) ?_
    · have e : (1 : Int32).toInt ≤ (Int32.ofNat i).toInt := aa_le32.mp e.1
      rw [hz] at e
      exact absurd e (by decide)
    · rintro v h ⟨rfl, rfl⟩
      refine zz_fin.if rfl (fun c => ?_) (fun c => zc_no0 c)
      refine zz_fin.steps (n := 1) (s' := (28, [some (.ref 29)], [.int (-1)], aa_H g)) rfl ?_
      exact zz_fin.at (n := 1) rfl ⟨by rw [if_pos hz], rfl⟩
  · refine zz_fin.call rfl rfl (Nat.le_of_ble_eq_true rfl) (zz_within1 (.inl rfl) ⟨aa_le32.mpr (by rw [zz_ofN (by omega)]; show (1 : Int) ≤ _; omega), aa_le32.mpr (by rw [zz_ofN (by omega)]; show _ ≤ (12 : Int); omega)⟩) ?_
    rintro v h ⟨rfl, rfl⟩
    refine zz_fin.if rfl (fun c => zc_no1 c) (fun c => ?_)
    refine zz_fin.steps (n := 6) (s' := (23, [some (.ref 29)], [.int ((g 29 1) - 1), .ref 30], aa_H g)) rfl ?_
    rw [hc, show Int32.ofNat i - 1 = Int32.ofNat (i - 1) from aa_eqN (by rw [aa_sub32 (by rw [zz_ofN (by omega), show (1 : Int32).toInt = 1 from rfl]; omega) (by rw [zz_ofN (by omega), show (1 : Int32).toInt = 1 from rfl]; omega), zz_ofN (by omega), show (1 : Int32).toInt = 1 from rfl]; omega) (by omega)]
    refine zz_fin.ial (n := 12) rfl rfl (zz_inbN (by omega) (by omega)) ?_
    rw [zz_toN (by omega)]
    refine zz_fin.steps (n := 1) (s' := (28, [some (.ref 29)], [.int (g 30 (i - 1))], aa_H g)) rfl ?_
    exact zz_fin.at (n := 1) rfl ⟨by rw [if_neg hz], rfl⟩
theorem dt_lat_2 {t : Nat} (ht : t < 4) {g : aa_G} {i : Nat} (hi : i ≤ 12) (hc : g (5 * t + 14) 1 = Int32.ofNat i) : zz_fin none 32 (0, zz_in [.ref (5 * t + 14)] (zz_nl 32), [], aa_H g) (fun v h => v = some (.int (if i = 0 then -1 else g (5 * t + 15) (i - 1))) ∧ h = aa_H g) := by
  rcases dt_four ht with rfl | rfl | rfl | rfl
  · exact dt_lat_2_0 hi hc
  · exact dt_lat_2_1 hi hc
  · exact dt_lat_2_2 hi hc
  · exact dt_lat_2_3 hi hc
theorem dt_lat_34_0 {g : aa_G} {i : Nat} (hi : i ≤ 12) (hc : g 46 1 = Int32.ofNat i) : zz_fin none 32 (0, zz_in [.ref 46] (zz_nl 32), [], aa_H g) (fun v h => v = some (.int (if i = 0 then -1 else g 47 (i - 1))) ∧ h = aa_H g) := by
  refine zz_fin.steps (n := 4) (s' := (7, [some (.ref 46)], [.int 12, .int 1, .int (g 46 1)], aa_H g)) rfl ?_
  rw [hc]
  by_cases hz : i = 0
  · refine zz_fin.call rfl rfl (Nat.le_of_ble_eq_true rfl) (zz_within0 (.inl rfl) fun e => ?_) ?_
    · have e : (1 : Int32).toInt ≤ (Int32.ofNat i).toInt := aa_le32.mp e.1
      rw [hz] at e
      exact absurd e (by decide)
    · rintro v h ⟨rfl, rfl⟩
      refine zz_fin.if rfl (fun c => ?_) (fun c => zc_no0 c)
      refine zz_fin.steps (n := 1) (s' := (28, [some (.ref 46)], [.int (-1)], aa_H g)) rfl ?_
      exact zz_fin.at (n := 1) rfl ⟨by rw [if_pos hz], rfl⟩
  · refine zz_fin.call rfl rfl (Nat.le_of_ble_eq_true rfl) (zz_within1 (.inl rfl) ⟨aa_le32.mpr (by rw [zz_ofN (by omega)]; show (1 : Int) ≤ _; omega), aa_le32.mpr (by rw [zz_ofN (by omega)]; show _ ≤ (12 : Int); omega)⟩) ?_
    rintro v h ⟨rfl, rfl⟩
    refine zz_fin.if rfl (fun c => zc_no1 c) (fun c => ?_)
    refine zz_fin.steps (n := 6) (s' := (23, [some (.ref 46)], [.int ((g 46 1) - 1), .ref 47], aa_H g)) rfl ?_
    rw [hc, show Int32.ofNat i - 1 = Int32.ofNat (i - 1) from aa_eqN (by rw [aa_sub32 (by rw [zz_ofN (by omega), show (1 : Int32).toInt = 1 from rfl]; omega) (by rw [zz_ofN (by omega), show (1 : Int32).toInt = 1 from rfl]; omega), zz_ofN (by omega), show (1 : Int32).toInt = 1 from rfl]; omega) (by omega)]
    refine zz_fin.ial (n := 12) rfl rfl (zz_inbN (by omega) (by omega)) ?_
    rw [zz_toN (by omega)]
    refine zz_fin.steps (n := 1) (s' := (28, [some (.ref 46)], [.int (g 47 (i - 1))], aa_H g)) rfl ?_
    exact zz_fin.at (n := 1) rfl ⟨by rw [if_neg hz], rfl⟩
theorem dt_lat_34_1 {g : aa_G} {i : Nat} (hi : i ≤ 12) (hc : g 51 1 = Int32.ofNat i) : zz_fin none 32 (0, zz_in [.ref 51] (zz_nl 32), [], aa_H g) (fun v h => v = some (.int (if i = 0 then -1 else g 52 (i - 1))) ∧ h = aa_H g) := by
  refine zz_fin.steps (n := 4) (s' := (7, [some (.ref 51)], [.int 12, .int 1, .int (g 51 1)], aa_H g)) rfl ?_
  rw [hc]
  by_cases hz : i = 0
  · refine zz_fin.call rfl rfl (Nat.le_of_ble_eq_true rfl) (zz_within0 (.inl rfl) fun e => ?_) ?_
    · have e : (1 : Int32).toInt ≤ (Int32.ofNat i).toInt := aa_le32.mp e.1
      rw [hz] at e
      exact absurd e (by decide)
    · rintro v h ⟨rfl, rfl⟩
      refine zz_fin.if rfl (fun c => ?_) (fun c => zc_no0 c)
      refine zz_fin.steps (n := 1) (s' := (28, [some (.ref 51)], [.int (-1)], aa_H g)) rfl ?_
      exact zz_fin.at (n := 1) rfl ⟨by rw [if_pos hz], rfl⟩
  · refine zz_fin.call rfl rfl (Nat.le_of_ble_eq_true rfl) (zz_within1 (.inl rfl) ⟨aa_le32.mpr (by rw [zz_ofN (by omega)]; show (1 : Int) ≤ _; omega), aa_le32.mpr (by rw [zz_ofN (by omega)]; show _ ≤ (12 : Int); omega)⟩) ?_
    rintro v h ⟨rfl, rfl⟩
    refine zz_fin.if rfl (fun c => zc_no1 c) (fun c => ?_)
    refine zz_fin.steps (n := 6) (s' := (23, [some (.ref 51)], [.int ((g 51 1) - 1), .ref 52], aa_H g)) rfl ?_
    rw [hc, show Int32.ofNat i - 1 = Int32.ofNat (i - 1) from aa_eqN (by rw [aa_sub32 (by rw [zz_ofN (by omega), show (1 : Int32).toInt = 1 from rfl]; omega) (by rw [zz_ofN (by omega), show (1 : Int32).toInt = 1 from rfl]; omega), zz_ofN (by omega), show (1 : Int32).toInt = 1 from rfl]; omega) (by omega)]
    refine zz_fin.ial (n := 12) rfl rfl (zz_inbN (by omega) (by omega)) ?_
    rw [zz_toN (by omega)]
    refine zz_fin.steps (n := 1) (s' := (28, [some (.ref 51)], [.int (g 52 (i - 1))], aa_H g)) rfl ?_
    exact zz_fin.at (n := 1) rfl ⟨by rw [if_neg hz], rfl⟩
theorem dt_lat_34_2 {g : aa_G} {i : Nat} (hi : i ≤ 12) (hc : g 56 1 = Int32.ofNat i) : zz_fin none 32 (0, zz_in [.ref 56] (zz_nl 32), [], aa_H g) (fun v h => v = some (.int (if i = 0 then -1 else g 57 (i - 1))) ∧ h = aa_H g) := by
  refine zz_fin.steps (n := 4) (s' := (7, [some (.ref 56)], [.int 12, .int 1, .int (g 56 1)], aa_H g)) rfl ?_
  rw [hc]
  by_cases hz : i = 0
  · refine zz_fin.call rfl rfl (Nat.le_of_ble_eq_true rfl) (zz_within0 (.inl rfl) fun e => ?_) ?_
    · have e : (1 : Int32).toInt ≤ (Int32.ofNat i).toInt := aa_le32.mp e.1
      rw [hz] at e
      exact absurd e (by decide)
    · rintro v h ⟨rfl, rfl⟩
      refine zz_fin.if rfl (fun c => ?_) (fun c => zc_no0 c)
      refine zz_fin.steps (n := 1) (s' := (28, [some (.ref 56)], [.int (-1)], aa_H g)) rfl ?_
      exact zz_fin.at (n := 1) rfl ⟨by rw [if_pos hz], rfl⟩
  · refine zz_fin.call rfl rfl (Nat.le_of_ble_eq_true rfl) (zz_within1 (.inl rfl) ⟨aa_le32.mpr (by rw [zz_ofN (by omega)]; show (1 : Int) ≤ _; omega), aa_le32.mpr (by rw [zz_ofN (by omega)]; show _ ≤ (12 : Int); omega)⟩) ?_
    rintro v h ⟨rfl, rfl⟩
    refine zz_fin.if rfl (fun c => zc_no1 c) (fun c => ?_)
    refine zz_fin.steps (n := 6) (s' := (23, [some (.ref 56)], [.int ((g 56 1) - 1), .ref 57], aa_H g)) rfl ?_
    rw [hc, show Int32.ofNat i - 1 = Int32.ofNat (i - 1) from aa_eqN (by rw [aa_sub32 (by rw [zz_ofN (by omega), show (1 : Int32).toInt = 1 from rfl]; omega) (by rw [zz_ofN (by omega), show (1 : Int32).toInt = 1 from rfl]; omega), zz_ofN (by omega), show (1 : Int32).toInt = 1 from rfl]; omega) (by omega)]
    refine zz_fin.ial (n := 12) rfl rfl (zz_inbN (by omega) (by omega)) ?_
    rw [zz_toN (by omega)]
    refine zz_fin.steps (n := 1) (s' := (28, [some (.ref 56)], [.int (g 57 (i - 1))], aa_H g)) rfl ?_
    exact zz_fin.at (n := 1) rfl ⟨by rw [if_neg hz], rfl⟩
theorem dt_lat_34_3 {g : aa_G} {i : Nat} (hi : i ≤ 12) (hc : g 61 1 = Int32.ofNat i) : zz_fin none 32 (0, zz_in [.ref 61] (zz_nl 32), [], aa_H g) (fun v h => v = some (.int (if i = 0 then -1 else g 62 (i - 1))) ∧ h = aa_H g) := by
  refine zz_fin.steps (n := 4) (s' := (7, [some (.ref 61)], [.int 12, .int 1, .int (g 61 1)], aa_H g)) rfl ?_
  rw [hc]
  by_cases hz : i = 0
  · refine zz_fin.call rfl rfl (Nat.le_of_ble_eq_true rfl) (zz_within0 (.inl rfl) fun e => ?_) ?_
    · have e : (1 : Int32).toInt ≤ (Int32.ofNat i).toInt := aa_le32.mp e.1
      rw [hz] at e
      exact absurd e (by decide)
    · rintro v h ⟨rfl, rfl⟩
      refine zz_fin.if rfl (fun c => ?_) (fun c => zc_no0 c)
      refine zz_fin.steps (n := 1) (s' := (28, [some (.ref 61)], [.int (-1)], aa_H g)) rfl ?_
      exact zz_fin.at (n := 1) rfl ⟨by rw [if_pos hz], rfl⟩
  · refine zz_fin.call rfl rfl (Nat.le_of_ble_eq_true rfl) (zz_within1 (.inl rfl) ⟨aa_le32.mpr (by rw [zz_ofN (by omega)]; show (1 : Int) ≤ _; omega), aa_le32.mpr (by rw [zz_ofN (by omega)]; show _ ≤ (12 : Int); omega)⟩) ?_
    rintro v h ⟨rfl, rfl⟩
    refine zz_fin.if rfl (fun c => zc_no1 c) (fun c => ?_)
    refine zz_fin.steps (n := 6) (s' := (23, [some (.ref 61)], [.int ((g 61 1) - 1), .ref 62], aa_H g)) rfl ?_
    rw [hc, show Int32.ofNat i - 1 = Int32.ofNat (i - 1) from aa_eqN (by rw [aa_sub32 (by rw [zz_ofN (by omega), show (1 : Int32).toInt = 1 from rfl]; omega) (by rw [zz_ofN (by omega), show (1 : Int32).toInt = 1 from rfl]; omega), zz_ofN (by omega), show (1 : Int32).toInt = 1 from rfl]; omega) (by omega)]
    refine zz_fin.ial (n := 12) rfl rfl (zz_inbN (by omega) (by omega)) ?_
    rw [zz_toN (by omega)]
    refine zz_fin.steps (n := 1) (s' := (28, [some (.ref 61)], [.int (g 62 (i - 1))], aa_H g)) rfl ?_
    exact zz_fin.at (n := 1) rfl ⟨by rw [if_neg hz], rfl⟩
theorem dt_lat_34 {t : Nat} (ht : t < 4) {g : aa_G} {i : Nat} (hi : i ≤ 12) (hc : g (5 * t + 46) 1 = Int32.ofNat i) : zz_fin none 32 (0, zz_in [.ref (5 * t + 46)] (zz_nl 32), [], aa_H g) (fun v h => v = some (.int (if i = 0 then -1 else g (5 * t + 47) (i - 1))) ∧ h = aa_H g) := by
  rcases dt_four ht with rfl | rfl | rfl | rfl
  · exact dt_lat_34_0 hi hc
  · exact dt_lat_34_1 hi hc
  · exact dt_lat_34_2 hi hc
  · exact dt_lat_34_3 hi hc
theorem dt_clr_2_0 {g : aa_G} {z : Int32} : zz_fin none 29 (0, zz_in [.ref 14, .int z] (zz_nl 29), [], aa_H g) (fun v h => v = none ∧ h = aa_H (zz_w (zz_w g 14 0 z) 14 1 0)) := by
  refine zz_fin.steps (n := 6) (s' := (10, [some (.ref 14), some (.int z)], [], aa_H (zz_w (zz_w g 14 0 z) 14 1 0))) rfl ?_
  exact zz_fin.at (n := 1) rfl ⟨rfl, rfl⟩
theorem dt_clr_2_1 {g : aa_G} {z : Int32} : zz_fin none 29 (0, zz_in [.ref 19, .int z] (zz_nl 29), [], aa_H g) (fun v h => v = none ∧ h = aa_H (zz_w (zz_w g 19 0 z) 19 1 0)) := by
  refine zz_fin.steps (n := 6) (s' := (10, [some (.ref 19), some (.int z)], [], aa_H (zz_w (zz_w g 19 0 z) 19 1 0))) rfl ?_
  exact zz_fin.at (n := 1) rfl ⟨rfl, rfl⟩
theorem dt_clr_2_2 {g : aa_G} {z : Int32} : zz_fin none 29 (0, zz_in [.ref 24, .int z] (zz_nl 29), [], aa_H g) (fun v h => v = none ∧ h = aa_H (zz_w (zz_w g 24 0 z) 24 1 0)) := by
  refine zz_fin.steps (n := 6) (s' := (10, [some (.ref 24), some (.int z)], [], aa_H (zz_w (zz_w g 24 0 z) 24 1 0))) rfl ?_
  exact zz_fin.at (n := 1) rfl ⟨rfl, rfl⟩
theorem dt_clr_2_3 {g : aa_G} {z : Int32} : zz_fin none 29 (0, zz_in [.ref 29, .int z] (zz_nl 29), [], aa_H g) (fun v h => v = none ∧ h = aa_H (zz_w (zz_w g 29 0 z) 29 1 0)) := by
  refine zz_fin.steps (n := 6) (s' := (10, [some (.ref 29), some (.int z)], [], aa_H (zz_w (zz_w g 29 0 z) 29 1 0))) rfl ?_
  exact zz_fin.at (n := 1) rfl ⟨rfl, rfl⟩
theorem dt_clr_2 {t : Nat} (ht : t < 4) {g : aa_G} {z : Int32} : zz_fin none 29 (0, zz_in [.ref (5 * t + 14), .int z] (zz_nl 29), [], aa_H g) (fun v h => v = none ∧ h = aa_H (zz_w (zz_w g (5 * t + 14) 0 z) (5 * t + 14) 1 0)) := by
  rcases dt_four ht with rfl | rfl | rfl | rfl
  · exact dt_clr_2_0 
  · exact dt_clr_2_1 
  · exact dt_clr_2_2 
  · exact dt_clr_2_3 
theorem dt_clr_34_0 {g : aa_G} {z : Int32} : zz_fin none 29 (0, zz_in [.ref 46, .int z] (zz_nl 29), [], aa_H g) (fun v h => v = none ∧ h = aa_H (zz_w (zz_w g 46 0 z) 46 1 0)) := by
  refine zz_fin.steps (n := 6) (s' := (10, [some (.ref 46), some (.int z)], [], aa_H (zz_w (zz_w g 46 0 z) 46 1 0))) rfl ?_
  exact zz_fin.at (n := 1) rfl ⟨rfl, rfl⟩
theorem dt_clr_34_1 {g : aa_G} {z : Int32} : zz_fin none 29 (0, zz_in [.ref 51, .int z] (zz_nl 29), [], aa_H g) (fun v h => v = none ∧ h = aa_H (zz_w (zz_w g 51 0 z) 51 1 0)) := by
  refine zz_fin.steps (n := 6) (s' := (10, [some (.ref 51), some (.int z)], [], aa_H (zz_w (zz_w g 51 0 z) 51 1 0))) rfl ?_
  exact zz_fin.at (n := 1) rfl ⟨rfl, rfl⟩
theorem dt_clr_34_2 {g : aa_G} {z : Int32} : zz_fin none 29 (0, zz_in [.ref 56, .int z] (zz_nl 29), [], aa_H g) (fun v h => v = none ∧ h = aa_H (zz_w (zz_w g 56 0 z) 56 1 0)) := by
  refine zz_fin.steps (n := 6) (s' := (10, [some (.ref 56), some (.int z)], [], aa_H (zz_w (zz_w g 56 0 z) 56 1 0))) rfl ?_
  exact zz_fin.at (n := 1) rfl ⟨rfl, rfl⟩
theorem dt_clr_34_3 {g : aa_G} {z : Int32} : zz_fin none 29 (0, zz_in [.ref 61, .int z] (zz_nl 29), [], aa_H g) (fun v h => v = none ∧ h = aa_H (zz_w (zz_w g 61 0 z) 61 1 0)) := by
  refine zz_fin.steps (n := 6) (s' := (10, [some (.ref 61), some (.int z)], [], aa_H (zz_w (zz_w g 61 0 z) 61 1 0))) rfl ?_
  exact zz_fin.at (n := 1) rfl ⟨rfl, rfl⟩
theorem dt_clr_34 {t : Nat} (ht : t < 4) {g : aa_G} {z : Int32} : zz_fin none 29 (0, zz_in [.ref (5 * t + 46), .int z] (zz_nl 29), [], aa_H g) (fun v h => v = none ∧ h = aa_H (zz_w (zz_w g (5 * t + 46) 0 z) (5 * t + 46) 1 0)) := by
  rcases dt_four ht with rfl | rfl | rfl | rfl
  · exact dt_clr_34_0 
  · exact dt_clr_34_1 
  · exact dt_clr_34_2 
  · exact dt_clr_34_3 
end
section
/-! ANY STATE OF THE CLASS: what its cells are, rules for them, what copyFrom does -/
def cs_all : List Nat := [2, 34, 68, 100, 132, 164, 196, 228, 260, 292, 324, 356, 388, 420, 476, 508]
def cs_town (T : Nat) : zz_L := .inr (.inr (7, [none, none, some (some (T + 1)), some (some (T + 2)), some (some (T + 3)), some (some (T + 4))]))
/-- a town, a state's bells, a state -/
def ct_tw (T : Nat) : Prop := (T ≠ 0 ∧ T + 4 ≤ 553) ∧ zz_ly T = cs_town T ∧ zz_ly (T + 1) = .inl (0, 12) ∧ zz_ly (T + 2) = .inl (0, 12) ∧ zz_ly (T + 3) = .inl (0, 12) ∧ zz_ly (T + 4) = .inl (0, 12)
def ct_bl (B : Nat) : Prop := (B ≠ 0 ∧ B + 9 ≤ 553) ∧ zz_ly B = .inr (.inr (1, [none, none, some (some (B + 1)), some (some (B + 2)), some (some (B + 3)), some (some (B + 4)), some (some (B + 5)), some (some (B + 6)), some (some (B + 7)), some (some (B + 8)), some (some (B + 9))])) ∧ zz_ly (B + 1) = .inl (0, 8) ∧ zz_ly (B + 2) = .inl (0, 8) ∧ zz_ly (B + 3) = .inl (0, 8) ∧ zz_ly (B + 4) = .inl (0, 8) ∧ zz_ly (B + 5) = .inl (0, 8) ∧ zz_ly (B + 6) = .inl (0, 8) ∧ zz_ly (B + 7) = .inl (0, 40) ∧ zz_ly (B + 8) = .inl (0, 40) ∧ zz_ly (B + 9) = .inl (0, 40)
def cs_ok (S : Nat) : Prop := ((S ≠ 0 ∧ S + 31 ≤ 553) ∧ zz_ly S = .inr (.inr (5, [none, none, some (some (S + 1)), some (some (S + 2))])) ∧ zz_ly (S + 1) = .inr (.inl (3, [some (S + 12), some (S + 17), some (S + 22), some (S + 27)]))) ∧ ct_bl (S + 2) ∧ ct_tw (S + 12) ∧ ct_tw (S + 17) ∧ ct_tw (S + 22) ∧ ct_tw (S + 27)
theorem cs_ok_2 : cs_ok 2 := ⟨⟨⟨by decide, by decide⟩, rfl, rfl⟩, ⟨⟨by decide, by decide⟩, rfl, rfl, rfl, rfl, rfl, rfl, rfl, rfl, rfl, rfl⟩, ⟨⟨by decide, by decide⟩, rfl, rfl, rfl, rfl, rfl⟩, ⟨⟨by decide, by decide⟩, rfl, rfl, rfl, rfl, rfl⟩, ⟨⟨by decide, by decide⟩, rfl, rfl, rfl, rfl, rfl⟩, ⟨⟨by decide, by decide⟩, rfl, rfl, rfl, rfl, rfl⟩⟩
theorem cs_ok_34 : cs_ok 34 := ⟨⟨⟨by decide, by decide⟩, rfl, rfl⟩, ⟨⟨by decide, by decide⟩, rfl, rfl, rfl, rfl, rfl, rfl, rfl, rfl, rfl, rfl⟩, ⟨⟨by decide, by decide⟩, rfl, rfl, rfl, rfl, rfl⟩, ⟨⟨by decide, by decide⟩, rfl, rfl, rfl, rfl, rfl⟩, ⟨⟨by decide, by decide⟩, rfl, rfl, rfl, rfl, rfl⟩, ⟨⟨by decide, by decide⟩, rfl, rfl, rfl, rfl, rfl⟩⟩
theorem cs_ok_68 : cs_ok 68 := ⟨⟨⟨by decide, by decide⟩, rfl, rfl⟩, ⟨⟨by decide, by decide⟩, rfl, rfl, rfl, rfl, rfl, rfl, rfl, rfl, rfl, rfl⟩, ⟨⟨by decide, by decide⟩, rfl, rfl, rfl, rfl, rfl⟩, ⟨⟨by decide, by decide⟩, rfl, rfl, rfl, rfl, rfl⟩, ⟨⟨by decide, by decide⟩, rfl, rfl, rfl, rfl, rfl⟩, ⟨⟨by decide, by decide⟩, rfl, rfl, rfl, rfl, rfl⟩⟩
theorem cs_ok_100 : cs_ok 100 := ⟨⟨⟨by decide, by decide⟩, rfl, rfl⟩, ⟨⟨by decide, by decide⟩, rfl, rfl, rfl, rfl, rfl, rfl, rfl, rfl, rfl, rfl⟩, ⟨⟨by decide, by decide⟩, rfl, rfl, rfl, rfl, rfl⟩, ⟨⟨by decide, by decide⟩, rfl, rfl, rfl, rfl, rfl⟩, ⟨⟨by decide, by decide⟩, rfl, rfl, rfl, rfl, rfl⟩, ⟨⟨by decide, by decide⟩, rfl, rfl, rfl, rfl, rfl⟩⟩
theorem cs_ok_132 : cs_ok 132 := ⟨⟨⟨by decide, by decide⟩, rfl, rfl⟩, ⟨⟨by decide, by decide⟩, rfl, rfl, rfl, rfl, rfl, rfl, rfl, rfl, rfl, rfl⟩, ⟨⟨by decide, by decide⟩, rfl, rfl, rfl, rfl, rfl⟩, ⟨⟨by decide, by decide⟩, rfl, rfl, rfl, rfl, rfl⟩, ⟨⟨by decide, by decide⟩, rfl, rfl, rfl, rfl, rfl⟩, ⟨⟨by decide, by decide⟩, rfl, rfl, rfl, rfl, rfl⟩⟩
theorem cs_ok_164 : cs_ok 164 := ⟨⟨⟨by decide, by decide⟩, rfl, rfl⟩, ⟨⟨by decide, by decide⟩, rfl, rfl, rfl, rfl, rfl, rfl, rfl, rfl, rfl, rfl⟩, ⟨⟨by decide, by decide⟩, rfl, rfl, rfl, rfl, rfl⟩, ⟨⟨by decide, by decide⟩, rfl, rfl, rfl, rfl, rfl⟩, ⟨⟨by decide, by decide⟩, rfl, rfl, rfl, rfl, rfl⟩, ⟨⟨by decide, by decide⟩, rfl, rfl, rfl, rfl, rfl⟩⟩
theorem cs_ok_196 : cs_ok 196 := ⟨⟨⟨by decide, by decide⟩, rfl, rfl⟩, ⟨⟨by decide, by decide⟩, rfl, rfl, rfl, rfl, rfl, rfl, rfl, rfl, rfl, rfl⟩, ⟨⟨by decide, by decide⟩, rfl, rfl, rfl, rfl, rfl⟩, ⟨⟨by decide, by decide⟩, rfl, rfl, rfl, rfl, rfl⟩, ⟨⟨by decide, by decide⟩, rfl, rfl, rfl, rfl, rfl⟩, ⟨⟨by decide, by decide⟩, rfl, rfl, rfl, rfl, rfl⟩⟩
theorem cs_ok_228 : cs_ok 228 := ⟨⟨⟨by decide, by decide⟩, rfl, rfl⟩, ⟨⟨by decide, by decide⟩, rfl, rfl, rfl, rfl, rfl, rfl, rfl, rfl, rfl, rfl⟩, ⟨⟨by decide, by decide⟩, rfl, rfl, rfl, rfl, rfl⟩, ⟨⟨by decide, by decide⟩, rfl, rfl, rfl, rfl, rfl⟩, ⟨⟨by decide, by decide⟩, rfl, rfl, rfl, rfl, rfl⟩, ⟨⟨by decide, by decide⟩, rfl, rfl, rfl, rfl, rfl⟩⟩
theorem cs_ok_260 : cs_ok 260 := ⟨⟨⟨by decide, by decide⟩, rfl, rfl⟩, ⟨⟨by decide, by decide⟩, rfl, rfl, rfl, rfl, rfl, rfl, rfl, rfl, rfl, rfl⟩, ⟨⟨by decide, by decide⟩, rfl, rfl, rfl, rfl, rfl⟩, ⟨⟨by decide, by decide⟩, rfl, rfl, rfl, rfl, rfl⟩, ⟨⟨by decide, by decide⟩, rfl, rfl, rfl, rfl, rfl⟩, ⟨⟨by decide, by decide⟩, rfl, rfl, rfl, rfl, rfl⟩⟩
theorem cs_ok_292 : cs_ok 292 := ⟨⟨⟨by decide, by decide⟩, rfl, rfl⟩, ⟨⟨by decide, by decide⟩, rfl, rfl, rfl, rfl, rfl, rfl, rfl, rfl, rfl, rfl⟩, ⟨⟨by decide, by decide⟩, rfl, rfl, rfl, rfl, rfl⟩, ⟨⟨by decide, by decide⟩, rfl, rfl, rfl, rfl, rfl⟩, ⟨⟨by decide, by decide⟩, rfl, rfl, rfl, rfl, rfl⟩, ⟨⟨by decide, by decide⟩, rfl, rfl, rfl, rfl, rfl⟩⟩
theorem cs_ok_324 : cs_ok 324 := ⟨⟨⟨by decide, by decide⟩, rfl, rfl⟩, ⟨⟨by decide, by decide⟩, rfl, rfl, rfl, rfl, rfl, rfl, rfl, rfl, rfl, rfl⟩, ⟨⟨by decide, by decide⟩, rfl, rfl, rfl, rfl, rfl⟩, ⟨⟨by decide, by decide⟩, rfl, rfl, rfl, rfl, rfl⟩, ⟨⟨by decide, by decide⟩, rfl, rfl, rfl, rfl, rfl⟩, ⟨⟨by decide, by decide⟩, rfl, rfl, rfl, rfl, rfl⟩⟩
theorem cs_ok_356 : cs_ok 356 := ⟨⟨⟨by decide, by decide⟩, rfl, rfl⟩, ⟨⟨by decide, by decide⟩, rfl, rfl, rfl, rfl, rfl, rfl, rfl, rfl, rfl, rfl⟩, ⟨⟨by decide, by decide⟩, rfl, rfl, rfl, rfl, rfl⟩, ⟨⟨by decide, by decide⟩, rfl, rfl, rfl, rfl, rfl⟩, ⟨⟨by decide, by decide⟩, rfl, rfl, rfl, rfl, rfl⟩, ⟨⟨by decide, by decide⟩, rfl, rfl, rfl, rfl, rfl⟩⟩
theorem cs_ok_388 : cs_ok 388 := ⟨⟨⟨by decide, by decide⟩, rfl, rfl⟩, ⟨⟨by decide, by decide⟩, rfl, rfl, rfl, rfl, rfl, rfl, rfl, rfl, rfl, rfl⟩, ⟨⟨by decide, by decide⟩, rfl, rfl, rfl, rfl, rfl⟩, ⟨⟨by decide, by decide⟩, rfl, rfl, rfl, rfl, rfl⟩, ⟨⟨by decide, by decide⟩, rfl, rfl, rfl, rfl, rfl⟩, ⟨⟨by decide, by decide⟩, rfl, rfl, rfl, rfl, rfl⟩⟩
theorem cs_ok_420 : cs_ok 420 := ⟨⟨⟨by decide, by decide⟩, rfl, rfl⟩, ⟨⟨by decide, by decide⟩, rfl, rfl, rfl, rfl, rfl, rfl, rfl, rfl, rfl, rfl⟩, ⟨⟨by decide, by decide⟩, rfl, rfl, rfl, rfl, rfl⟩, ⟨⟨by decide, by decide⟩, rfl, rfl, rfl, rfl, rfl⟩, ⟨⟨by decide, by decide⟩, rfl, rfl, rfl, rfl, rfl⟩, ⟨⟨by decide, by decide⟩, rfl, rfl, rfl, rfl, rfl⟩⟩
theorem cs_ok_476 : cs_ok 476 := ⟨⟨⟨by decide, by decide⟩, rfl, rfl⟩, ⟨⟨by decide, by decide⟩, rfl, rfl, rfl, rfl, rfl, rfl, rfl, rfl, rfl, rfl⟩, ⟨⟨by decide, by decide⟩, rfl, rfl, rfl, rfl, rfl⟩, ⟨⟨by decide, by decide⟩, rfl, rfl, rfl, rfl, rfl⟩, ⟨⟨by decide, by decide⟩, rfl, rfl, rfl, rfl, rfl⟩, ⟨⟨by decide, by decide⟩, rfl, rfl, rfl, rfl, rfl⟩⟩
theorem cs_ok_508 : cs_ok 508 := ⟨⟨⟨by decide, by decide⟩, rfl, rfl⟩, ⟨⟨by decide, by decide⟩, rfl, rfl, rfl, rfl, rfl, rfl, rfl, rfl, rfl, rfl⟩, ⟨⟨by decide, by decide⟩, rfl, rfl, rfl, rfl, rfl⟩, ⟨⟨by decide, by decide⟩, rfl, rfl, rfl, rfl, rfl⟩, ⟨⟨by decide, by decide⟩, rfl, rfl, rfl, rfl, rfl⟩, ⟨⟨by decide, by decide⟩, rfl, rfl, rfl, rfl, rfl⟩⟩
theorem cs_of {S : Nat} (h : S ∈ cs_all) : cs_ok S := by
  rcases List.mem_cons.mp h with rfl | h
  · exact cs_ok_2
  rcases List.mem_cons.mp h with rfl | h
  · exact cs_ok_34
  rcases List.mem_cons.mp h with rfl | h
  · exact cs_ok_68
  rcases List.mem_cons.mp h with rfl | h
  · exact cs_ok_100
  rcases List.mem_cons.mp h with rfl | h
  · exact cs_ok_132
  rcases List.mem_cons.mp h with rfl | h
  · exact cs_ok_164
  rcases List.mem_cons.mp h with rfl | h
  · exact cs_ok_196
  rcases List.mem_cons.mp h with rfl | h
  · exact cs_ok_228
  rcases List.mem_cons.mp h with rfl | h
  · exact cs_ok_260
  rcases List.mem_cons.mp h with rfl | h
  · exact cs_ok_292
  rcases List.mem_cons.mp h with rfl | h
  · exact cs_ok_324
  rcases List.mem_cons.mp h with rfl | h
  · exact cs_ok_356
  rcases List.mem_cons.mp h with rfl | h
  · exact cs_ok_388
  rcases List.mem_cons.mp h with rfl | h
  · exact cs_ok_420
  rcases List.mem_cons.mp h with rfl | h
  · exact cs_ok_476
  rcases List.mem_cons.mp h with rfl | h
  · exact cs_ok_508
  cases h
theorem cs_tw_at {S : Nat} (h : cs_ok S) {t : Nat} (ht : t < 4) : ct_tw (5 * t + (S + 12)) := by
  obtain ⟨-, -, h1, h2, h3, h4⟩ := h
  rcases dt_four ht with rfl | rfl | rfl | rfl
  · rw [show 5 * 0 + (S + 12) = S + 12 by omega]; exact h1
  · rw [show 5 * 1 + (S + 12) = S + 17 by omega]; exact h2
  · rw [show 5 * 2 + (S + 12) = S + 22 by omega]; exact h3
  · rw [show 5 * 3 + (S + 12) = S + 27 by omega]; exact h4
section AJ
variable {X : zz_X} {m pc : Nat} {lv : zz_V} {φ : Option Value → zz_H → Prop} {g : aa_G} {k y : Nat} {r : List Value} {u w : Nat} {vv : Value} {sw : List (Int × Nat)} {c : Nat} {fs : List (Option (Option Nat))}
theorem cs_obj (hk : k ≠ 0 ∧ k ≤ 553) (hl : zz_ly k = .inr (.inr (c, fs))) : zz_obj (aa_H g) k c = some fs := by
  unfold zz_obj zz_lay
  rw [show (if k ≤ (aa_H g).1.1 then some ((aa_H g).2.1 k) else none) = some (zz_ly k) from if_pos hk.2, hl]
  exact if_pos rfl
theorem zz_fin.sgf {i : Nat} (hT : zz_T m pc = some (.getfield i, (c, y, u, w), vv, sw)) (hk : k ≠ 0 ∧ k ≤ 553) (hl : zz_ly k = .inr (.inr (c, fs))) (hf : fs[y]? = some none) (kk : zz_fin X m (pc + 3, lv, .int (g k y) :: r, aa_H g) φ) : zz_fin X m (pc, lv, .ref k :: r, aa_H g) φ := by
  have ho := cs_obj (g := g) hk hl
  obtain ⟨k', rfl⟩ : ∃ k', k = k' + 1 := ⟨k - 1, by omega⟩
  refine zz_fin.step1 hT ?_ kk
  show zz_get c y pc lv (.ref (k' + 1) :: r) (aa_H g) = _
  unfold zz_get
  dsimp only
  rw [ho]
  dsimp only
  rw [hf]
  rfl
theorem zz_fin.sgr {i q : Nat} (hT : zz_T m pc = some (.getfield i, (c, y, u, w), vv, sw)) (hk : k ≠ 0 ∧ k ≤ 553) (hl : zz_ly k = .inr (.inr (c, fs))) (hf : fs[y]? = some (some (some q))) (kk : zz_fin X m (pc + 3, lv, .ref q :: r, aa_H g) φ) : zz_fin X m (pc, lv, .ref k :: r, aa_H g) φ := by
  have ho := cs_obj (g := g) hk hl
  obtain ⟨k', rfl⟩ : ∃ k', k = k' + 1 := ⟨k - 1, by omega⟩
  refine zz_fin.step1 hT ?_ kk
  show zz_get c y pc lv (.ref (k' + 1) :: r) (aa_H g) = _
  unfold zz_get
  dsimp only
  rw [ho]
  dsimp only
  rw [hf]
  rfl
theorem zz_fin.spf {i : Nat} {a : Int32} (hT : zz_T m pc = some (.putfield i, (c, y, 0, w), vv, sw)) (hk : k ≠ 0 ∧ k ≤ 553) (hl : zz_ly k = .inr (.inr (c, fs))) (hf : fs[y]? = some none) (kk : zz_fin X m (pc + 3, lv, r, aa_H (zz_w g k y a)) φ) : zz_fin X m (pc, lv, .int a :: .ref k :: r, aa_H g) φ := by
  have ho := cs_obj (g := g) hk hl
  obtain ⟨k', rfl⟩ : ∃ k', k = k' + 1 := ⟨k - 1, by omega⟩
  refine zz_fin.step1 hT ?_ kk
  show zz_put c y 0 pc lv (.int a :: .ref (k' + 1) :: r) (aa_H g) = _
  unfold zz_put
  dsimp only
  rw [ho]
  dsimp only
  rw [hf]
  dsimp only
  rw [if_pos (.inl rfl)]
  rfl
theorem zz_fin.sal {t i q : Nat} {rs : List (Option Nat)} (hT : zz_T m pc = some (.aaload, (c, y, u, w), vv, sw)) (hk : k ≠ 0 ∧ k ≤ 553) (hl : zz_ly k = .inr (.inl (t, rs))) (ht : t = 3 ∨ t = 4) (hi : i < 100) (hf : rs[i]? = some (some q)) (kk : zz_fin X m (pc + 1, lv, .ref q :: r, aa_H g) φ) : zz_fin X m (pc, lv, .int (Int32.ofNat i) :: .ref k :: r, aa_H g) φ := by
  have ho : zz_rar (aa_H g) k = some (t, rs) := by
    unfold zz_rar zz_lay
    rw [show (if k ≤ (aa_H g).1.1 then some ((aa_H g).2.1 k) else none) = some (zz_ly k) from if_pos hk.2, hl]
  obtain ⟨k', rfl⟩ : ∃ k', k = k' + 1 := ⟨k - 1, by omega⟩
  have hil := (List.getElem?_eq_some_iff.mp hf).1
  refine zz_fin.step1 hT ?_ kk
  show zz_aal pc lv (.int (Int32.ofNat i) :: .ref (k' + 1) :: r) (aa_H g) = _
  unfold zz_aal
  dsimp only
  rw [ho]
  dsimp only
  by_cases hb : rs.length < 2147483648
  · rw [if_pos ⟨zz_inbN hil hb, ht⟩, zz_toN (by omega), hf]
    rfl
  · have e : zz_inb (Int32.ofNat i) rs.length = true := by
      refine (decide_eq_true_iff).mpr fun e => ?_
      rw [zz_toN (by omega)] at e
      rcases e with e | e
      · have e := aa_lt32.mp e
        rw [zz_ofN (by omega), show (0 : Int32).toInt = 0 from rfl] at e
        omega
      · omega
    rw [if_pos ⟨e, ht⟩, zz_toN (by omega), hf]
    rfl
theorem cs_arr (hk : k ≠ 0 ∧ k ≤ 553) {n : Nat} (hl : zz_ly k = .inl (0, n)) : zz_arr (aa_H g) k 0 = some n := by
  unfold zz_arr zz_lay
  rw [show (if k ≤ (aa_H g).1.1 then some ((aa_H g).2.1 k) else none) = some (zz_ly k) from if_pos hk.2, hl]
  exact if_pos rfl
theorem zz_fin.scp {i a b n : Nat} {n0 : Int32} (hT : zz_T m pc = some (.invokestatic i, (100001, y, u, w), vv, sw)) (ha : (a ≠ 0 ∧ a ≤ 553) ∧ zz_ly a = .inl (0, n)) (hb : (b ≠ 0 ∧ b ≤ 553) ∧ zz_ly b = .inl (0, n)) (hn : n0.toNatClampNeg = n ∧ ¬ n0 < 0) (hr : r = []) (kk : zz_fin X m (pc + 3, lv, [], aa_H (zz_up g a (va_cpy (g b) (g a) 0 0 n))) φ) : zz_fin X m (pc, lv, .int n0 :: .int 0 :: .ref a :: .int 0 :: .ref b :: r, aa_H g) φ := by
  subst hr
  have ea := cs_arr (g := g) ha.1 ha.2
  have eb := cs_arr (g := g) hb.1 hb.2
  obtain ⟨a', rfl⟩ : ∃ a', a = a' + 1 := ⟨a - 1, by omega⟩
  obtain ⟨b', rfl⟩ : ∃ b', b = b' + 1 := ⟨b - 1, by omega⟩
  refine zz_fin.step1 hT ?_ kk
  show zz_cpy pc lv (.int n0 :: .int 0 :: .ref (a' + 1) :: .int 0 :: .ref (b' + 1) :: []) (aa_H g) = _
  unfold zz_cpy
  dsimp only
  rw [ea, eb]
  dsimp only
  have h0 : (0 : Int32).toNatClampNeg = 0 := rfl
  rw [if_pos ⟨by decide, by decide, hn.2, by rw [h0, hn.1]; omega, by rw [h0, hn.1]; omega, by decide⟩, h0, hn.1]
  rfl
theorem zz_fin.callr {m2 n i : Nat} {as : List Value} {rest st : List Value} {ψ : Option Value → zz_H → Prop} (hT : zz_T m pc = some (.invokevirtual i, (m2, n, c, w), vv, sw)) (hst : st = as.reverse ++ .ref k :: rest) (hn : as.length = n) (hk : k ≠ 0 ∧ k ≤ 553) (hl : zz_ly k = .inr (.inr (c, fs))) (h8 : (rest.map fun v => v.category).sum ≤ 8) (hf : (zz_in (.ref k :: as) 0).length ≤ zz_nl m2)
    (kc : zz_fin X m2 (0, zz_in (.ref k :: as) (zz_nl m2), [], aa_H g) ψ) (kk : ∀ v h', ψ v h' → zz_fin X m (pc + 3, lv, v.toList ++ rest, h') φ) : zz_fin X m (pc, lv, st, aa_H g) φ := by
  have ho := cs_obj (g := g) hk hl
  obtain ⟨k', rfl⟩ : ∃ k', k = k' + 1 := ⟨k - 1, by omega⟩
  exact zz_fin.callv hT hst hn (by rw [ho]; rfl) h8 hf kc kk
end AJ
theorem zz_up_at {α : Type} (f : Nat → α) (k : Nat) (v : α) : zz_up f k v k = v := zz_up_self f k v
theorem zz_up_ne {α : Type} (f : Nat → α) {k j : Nat} (v : α) (h : j ≠ k) : zz_up f k v j = f j := zz_up_other f v h
end
section
/-! ANY STATE OF THE CLASS: copyFrom -/
theorem cp_arr {g g' : aa_G} {a b n : Nat} (h : zz_up g a (va_cpy (g b) (g a) 0 0 n) = g') : (∀ j, j < n → g' a j = g b j) ∧ ∀ k, k ≠ a → g' k = g k := by
  subst h
  refine ⟨fun j hj => ?_, fun k hk => zz_up_ne _ _ hk⟩
  rw [zz_up_at]
  unfold va_cpy
  rw [if_pos ⟨Nat.zero_le _, by omega⟩, show 0 + (j - 0) = j by omega]
def cp_tw (g g' : aa_G) (T U : Nat) : Prop := (∀ j, j < 2 → g' T j = g U j) ∧ ∀ o j, 1 ≤ o → o ≤ 4 → j < 12 → g' (T + o) j = g (U + o) j
def cp_bl (g g' : aa_G) (B C : Nat) : Prop := (∀ j, j < 2 → g' B j = g C j) ∧ ∀ o j, 1 ≤ o → o ≤ 9 → j < (if o ≤ 6 then 8 else 40) → g' (B + o) j = g (C + o) j
/-- outside of these cells nothing has changed -/
def cp_fr (g g' : aa_G) (a b : Nat) : Prop := ∀ k j, ¬ (a ≤ k ∧ k ≤ b) → g' k j = g k j
theorem cp_town {g : aa_G} {T U : Nat} (hT : ct_tw T) (hU : ct_tw U) (hd : T + 5 ≤ U ∨ U + 5 ≤ T) : zz_fin none 17 (0, zz_in [.ref T, .ref U] (zz_nl 17), [], aa_H g) (fun v h => v = none ∧ ∃ g', h = aa_H g' ∧ cp_tw g g' T U ∧ cp_fr g g' T (T + 4)) := by
  have hT0 := hT.1
  have hU0 := hU.1
  refine zz_fin.steps (n := 2) (s' := (2, [some (.ref T), some (.ref U)], [.ref U, .ref T], aa_H g)) rfl ?_
  refine zz_fin.sgf rfl ⟨hU.1.1, by omega⟩ (hU.2.1) rfl ?_
  refine zz_fin.spf rfl ⟨hT.1.1, by omega⟩ (hT.2.1) rfl ?_
  refine zz_fin.steps (n := 2) (s' := (10, [some (.ref T), some (.ref U)], [.ref U, .ref T], aa_H (zz_w g T 0 (g U 0)))) rfl ?_
  refine zz_fin.sgf rfl ⟨hU.1.1, by omega⟩ (hU.2.1) rfl ?_
  refine zz_fin.spf rfl ⟨hT.1.1, by omega⟩ (hT.2.1) rfl ?_
  refine zz_fin.steps (n := 1) (s' := (17, [some (.ref T), some (.ref U)], [.ref U], aa_H (zz_w (zz_w g T 0 (g U 0)) T 1 ((zz_w g T 0 (g U 0)) U 1)))) rfl ?_
  refine zz_fin.sgr rfl ⟨hU.1.1, by omega⟩ (hU.2.1) rfl ?_
  refine zz_fin.steps (n := 2) (s' := (22, [some (.ref T), some (.ref U)], [.ref T, .int 0, .ref (U + 1)], aa_H (zz_w (zz_w g T 0 (g U 0)) T 1 ((zz_w g T 0 (g U 0)) U 1)))) rfl ?_
  refine zz_fin.sgr rfl ⟨hT.1.1, by omega⟩ (hT.2.1) rfl ?_
  refine zz_fin.steps (n := 2) (s' := (28, [some (.ref T), some (.ref U)], [.int 12, .int 0, .ref (T + 1), .int 0, .ref (U + 1)], aa_H (zz_w (zz_w g T 0 (g U 0)) T 1 ((zz_w g T 0 (g U 0)) U 1)))) rfl ?_
  refine zz_fin.scp rfl ⟨⟨by omega, by omega⟩, hT.2.2.1⟩ ⟨⟨by omega, by omega⟩, hU.2.2.1⟩ (by decide) rfl ?_
  generalize hG1 : zz_up (zz_w (zz_w g T 0 (g U 0)) T 1 ((zz_w g T 0 (g U 0)) U 1)) (T + 1) (va_cpy ((zz_w (zz_w g T 0 (g U 0)) T 1 ((zz_w g T 0 (g U 0)) U 1)) (U + 1)) ((zz_w (zz_w g T 0 (g U 0)) T 1 ((zz_w g T 0 (g U 0)) U 1)) (T + 1)) 0 0 12) = G1
  refine zz_fin.steps (n := 1) (s' := (32, [some (.ref T), some (.ref U)], [.ref U], aa_H G1)) rfl ?_
  refine zz_fin.sgr rfl ⟨hU.1.1, by omega⟩ (hU.2.1) rfl ?_
  refine zz_fin.steps (n := 2) (s' := (37, [some (.ref T), some (.ref U)], [.ref T, .int 0, .ref (U + 2)], aa_H G1)) rfl ?_
  refine zz_fin.sgr rfl ⟨hT.1.1, by omega⟩ (hT.2.1) rfl ?_
  refine zz_fin.steps (n := 2) (s' := (43, [some (.ref T), some (.ref U)], [.int 12, .int 0, .ref (T + 2), .int 0, .ref (U + 2)], aa_H G1)) rfl ?_
  refine zz_fin.scp rfl ⟨⟨by omega, by omega⟩, hT.2.2.2.1⟩ ⟨⟨by omega, by omega⟩, hU.2.2.2.1⟩ (by decide) rfl ?_
  generalize hG2 : zz_up G1 (T + 2) (va_cpy (G1 (U + 2)) (G1 (T + 2)) 0 0 12) = G2
  refine zz_fin.steps (n := 1) (s' := (47, [some (.ref T), some (.ref U)], [.ref U], aa_H G2)) rfl ?_
  refine zz_fin.sgr rfl ⟨hU.1.1, by omega⟩ (hU.2.1) rfl ?_
  refine zz_fin.steps (n := 2) (s' := (52, [some (.ref T), some (.ref U)], [.ref T, .int 0, .ref (U + 3)], aa_H G2)) rfl ?_
  refine zz_fin.sgr rfl ⟨hT.1.1, by omega⟩ (hT.2.1) rfl ?_
  refine zz_fin.steps (n := 2) (s' := (58, [some (.ref T), some (.ref U)], [.int 12, .int 0, .ref (T + 3), .int 0, .ref (U + 3)], aa_H G2)) rfl ?_
  refine zz_fin.scp rfl ⟨⟨by omega, by omega⟩, hT.2.2.2.2.1⟩ ⟨⟨by omega, by omega⟩, hU.2.2.2.2.1⟩ (by decide) rfl ?_
  generalize hG3 : zz_up G2 (T + 3) (va_cpy (G2 (U + 3)) (G2 (T + 3)) 0 0 12) = G3
  refine zz_fin.steps (n := 1) (s' := (62, [some (.ref T), some (.ref U)], [.ref U], aa_H G3)) rfl ?_
  refine zz_fin.sgr rfl ⟨hU.1.1, by omega⟩ (hU.2.1) rfl ?_
  refine zz_fin.steps (n := 2) (s' := (67, [some (.ref T), some (.ref U)], [.ref T, .int 0, .ref (U + 4)], aa_H G3)) rfl ?_
  refine zz_fin.sgr rfl ⟨hT.1.1, by omega⟩ (hT.2.1) rfl ?_
  refine zz_fin.steps (n := 2) (s' := (73, [some (.ref T), some (.ref U)], [.int 12, .int 0, .ref (T + 4), .int 0, .ref (U + 4)], aa_H G3)) rfl ?_
  refine zz_fin.scp rfl ⟨⟨by omega, by omega⟩, hT.2.2.2.2.2⟩ ⟨⟨by omega, by omega⟩, hU.2.2.2.2.2⟩ (by decide) rfl ?_
  generalize hG4 : zz_up G3 (T + 4) (va_cpy (G3 (U + 4)) (G3 (T + 4)) 0 0 12) = G4
  have c1 := cp_arr hG1
  have c2 := cp_arr hG2
  have c3 := cp_arr hG3
  have c4 := cp_arr hG4
  have b0 : (zz_w (zz_w g T 0 (g U 0)) T 1 ((zz_w g T 0 (g U 0)) U 1)) T 0 = g U 0 := by rw [aa_w_ne _ _ (by omega), aa_w_at]
  have b1 : (zz_w (zz_w g T 0 (g U 0)) T 1 ((zz_w g T 0 (g U 0)) U 1)) T 1 = g U 1 := by rw [aa_w_at, aa_w_ne _ _ (by omega)]
  have bo : ∀ k j, k ≠ T → (zz_w (zz_w g T 0 (g U 0)) T 1 ((zz_w g T 0 (g U 0)) U 1)) k j = g k j := fun k j hk => by rw [aa_w_ne _ _ fun e => hk e.1, aa_w_ne _ _ fun e => hk e.1]
  refine zz_fin.at (n := 1) rfl ⟨rfl, _, rfl, ?_, ?_⟩
  · refine ⟨fun j hj => ?_, fun o j h1 h2 hj => ?_⟩
    · rw [c4.2 _ (by omega), c3.2 _ (by omega), c2.2 _ (by omega), c1.2 _ (by omega)]
      rcases (show j = 0 ∨ j = 1 by omega) with rfl | rfl
      · exact b0
      · exact b1
    · rcases (show o = 1 ∨ o = 2 ∨ o = 3 ∨ o = 4 by omega) with rfl | rfl | rfl | rfl
      · rw [c4.2 _ (by omega), c3.2 _ (by omega), c2.2 _ (by omega), c1.1 j (by exact hj)]
        exact bo _ _ (by omega)
      · rw [c4.2 _ (by omega), c3.2 _ (by omega), c2.1 j (by exact hj), c1.2 _ (by omega)]
        exact bo _ _ (by omega)
      · rw [c4.2 _ (by omega), c3.1 j (by exact hj), c2.2 _ (by omega), c1.2 _ (by omega)]
        exact bo _ _ (by omega)
      · rw [c4.1 j (by exact hj), c3.2 _ (by omega), c2.2 _ (by omega), c1.2 _ (by omega)]
        exact bo _ _ (by omega)
  · intro k j hk
    rw [c4.2 _ (by omega), c3.2 _ (by omega), c2.2 _ (by omega), c1.2 _ (by omega)]
    exact bo _ _ (by omega)
theorem cp_bells {g : aa_G} {B C : Nat} (hB : ct_bl B) (hC : ct_bl C) (hd : B + 10 ≤ C ∨ C + 10 ≤ B) : zz_fin none 18 (0, zz_in [.ref B, .ref C] (zz_nl 18), [], aa_H g) (fun v h => v = none ∧ ∃ g', h = aa_H g' ∧ cp_bl g g' B C ∧ cp_fr g g' B (B + 9)) := by
  have hB0 := hB.1
  have hC0 := hC.1
  refine zz_fin.steps (n := 2) (s' := (2, [some (.ref B), some (.ref C)], [.ref C, .ref B], aa_H g)) rfl ?_
  refine zz_fin.sgf rfl ⟨hC.1.1, by omega⟩ (hC.2.1) rfl ?_
  refine zz_fin.spf rfl ⟨hB.1.1, by omega⟩ (hB.2.1) rfl ?_
  refine zz_fin.steps (n := 2) (s' := (10, [some (.ref B), some (.ref C)], [.ref C, .ref B], aa_H (zz_w g B 0 (g C 0)))) rfl ?_
  refine zz_fin.sgf rfl ⟨hC.1.1, by omega⟩ (hC.2.1) rfl ?_
  refine zz_fin.spf rfl ⟨hB.1.1, by omega⟩ (hB.2.1) rfl ?_
  refine zz_fin.steps (n := 1) (s' := (17, [some (.ref B), some (.ref C)], [.ref C], aa_H (zz_w (zz_w g B 0 (g C 0)) B 1 ((zz_w g B 0 (g C 0)) C 1)))) rfl ?_
  refine zz_fin.sgr rfl ⟨hC.1.1, by omega⟩ (hC.2.1) rfl ?_
  refine zz_fin.steps (n := 2) (s' := (22, [some (.ref B), some (.ref C)], [.ref B, .int 0, .ref (C + 1)], aa_H (zz_w (zz_w g B 0 (g C 0)) B 1 ((zz_w g B 0 (g C 0)) C 1)))) rfl ?_
  refine zz_fin.sgr rfl ⟨hB.1.1, by omega⟩ (hB.2.1) rfl ?_
  refine zz_fin.steps (n := 2) (s' := (28, [some (.ref B), some (.ref C)], [.int 8, .int 0, .ref (B + 1), .int 0, .ref (C + 1)], aa_H (zz_w (zz_w g B 0 (g C 0)) B 1 ((zz_w g B 0 (g C 0)) C 1)))) rfl ?_
  refine zz_fin.scp rfl ⟨⟨by omega, by omega⟩, hB.2.2.1⟩ ⟨⟨by omega, by omega⟩, hC.2.2.1⟩ (by decide) rfl ?_
  generalize hG1 : zz_up (zz_w (zz_w g B 0 (g C 0)) B 1 ((zz_w g B 0 (g C 0)) C 1)) (B + 1) (va_cpy ((zz_w (zz_w g B 0 (g C 0)) B 1 ((zz_w g B 0 (g C 0)) C 1)) (C + 1)) ((zz_w (zz_w g B 0 (g C 0)) B 1 ((zz_w g B 0 (g C 0)) C 1)) (B + 1)) 0 0 8) = G1
  refine zz_fin.steps (n := 1) (s' := (32, [some (.ref B), some (.ref C)], [.ref C], aa_H G1)) rfl ?_
  refine zz_fin.sgr rfl ⟨hC.1.1, by omega⟩ (hC.2.1) rfl ?_
  refine zz_fin.steps (n := 2) (s' := (37, [some (.ref B), some (.ref C)], [.ref B, .int 0, .ref (C + 2)], aa_H G1)) rfl ?_
  refine zz_fin.sgr rfl ⟨hB.1.1, by omega⟩ (hB.2.1) rfl ?_
  refine zz_fin.steps (n := 2) (s' := (43, [some (.ref B), some (.ref C)], [.int 8, .int 0, .ref (B + 2), .int 0, .ref (C + 2)], aa_H G1)) rfl ?_
  refine zz_fin.scp rfl ⟨⟨by omega, by omega⟩, hB.2.2.2.1⟩ ⟨⟨by omega, by omega⟩, hC.2.2.2.1⟩ (by decide) rfl ?_
  generalize hG2 : zz_up G1 (B + 2) (va_cpy (G1 (C + 2)) (G1 (B + 2)) 0 0 8) = G2
  refine zz_fin.steps (n := 1) (s' := (47, [some (.ref B), some (.ref C)], [.ref C], aa_H G2)) rfl ?_
  refine zz_fin.sgr rfl ⟨hC.1.1, by omega⟩ (hC.2.1) rfl ?_
  refine zz_fin.steps (n := 2) (s' := (52, [some (.ref B), some (.ref C)], [.ref B, .int 0, .ref (C + 3)], aa_H G2)) rfl ?_
  refine zz_fin.sgr rfl ⟨hB.1.1, by omega⟩ (hB.2.1) rfl ?_
  refine zz_fin.steps (n := 2) (s' := (58, [some (.ref B), some (.ref C)], [.int 8, .int 0, .ref (B + 3), .int 0, .ref (C + 3)], aa_H G2)) rfl ?_
  refine zz_fin.scp rfl ⟨⟨by omega, by omega⟩, hB.2.2.2.2.1⟩ ⟨⟨by omega, by omega⟩, hC.2.2.2.2.1⟩ (by decide) rfl ?_
  generalize hG3 : zz_up G2 (B + 3) (va_cpy (G2 (C + 3)) (G2 (B + 3)) 0 0 8) = G3
  refine zz_fin.steps (n := 1) (s' := (62, [some (.ref B), some (.ref C)], [.ref C], aa_H G3)) rfl ?_
  refine zz_fin.sgr rfl ⟨hC.1.1, by omega⟩ (hC.2.1) rfl ?_
  refine zz_fin.steps (n := 2) (s' := (67, [some (.ref B), some (.ref C)], [.ref B, .int 0, .ref (C + 4)], aa_H G3)) rfl ?_
  refine zz_fin.sgr rfl ⟨hB.1.1, by omega⟩ (hB.2.1) rfl ?_
  refine zz_fin.steps (n := 2) (s' := (73, [some (.ref B), some (.ref C)], [.int 8, .int 0, .ref (B + 4), .int 0, .ref (C + 4)], aa_H G3)) rfl ?_
  refine zz_fin.scp rfl ⟨⟨by omega, by omega⟩, hB.2.2.2.2.2.1⟩ ⟨⟨by omega, by omega⟩, hC.2.2.2.2.2.1⟩ (by decide) rfl ?_
  generalize hG4 : zz_up G3 (B + 4) (va_cpy (G3 (C + 4)) (G3 (B + 4)) 0 0 8) = G4
  refine zz_fin.steps (n := 1) (s' := (77, [some (.ref B), some (.ref C)], [.ref C], aa_H G4)) rfl ?_
  refine zz_fin.sgr rfl ⟨hC.1.1, by omega⟩ (hC.2.1) rfl ?_
  refine zz_fin.steps (n := 2) (s' := (82, [some (.ref B), some (.ref C)], [.ref B, .int 0, .ref (C + 5)], aa_H G4)) rfl ?_
  refine zz_fin.sgr rfl ⟨hB.1.1, by omega⟩ (hB.2.1) rfl ?_
  refine zz_fin.steps (n := 2) (s' := (88, [some (.ref B), some (.ref C)], [.int 8, .int 0, .ref (B + 5), .int 0, .ref (C + 5)], aa_H G4)) rfl ?_
  refine zz_fin.scp rfl ⟨⟨by omega, by omega⟩, hB.2.2.2.2.2.2.1⟩ ⟨⟨by omega, by omega⟩, hC.2.2.2.2.2.2.1⟩ (by decide) rfl ?_
  generalize hG5 : zz_up G4 (B + 5) (va_cpy (G4 (C + 5)) (G4 (B + 5)) 0 0 8) = G5
  refine zz_fin.steps (n := 1) (s' := (92, [some (.ref B), some (.ref C)], [.ref C], aa_H G5)) rfl ?_
  refine zz_fin.sgr rfl ⟨hC.1.1, by omega⟩ (hC.2.1) rfl ?_
  refine zz_fin.steps (n := 2) (s' := (97, [some (.ref B), some (.ref C)], [.ref B, .int 0, .ref (C + 6)], aa_H G5)) rfl ?_
  refine zz_fin.sgr rfl ⟨hB.1.1, by omega⟩ (hB.2.1) rfl ?_
  refine zz_fin.steps (n := 2) (s' := (103, [some (.ref B), some (.ref C)], [.int 8, .int 0, .ref (B + 6), .int 0, .ref (C + 6)], aa_H G5)) rfl ?_
  refine zz_fin.scp rfl ⟨⟨by omega, by omega⟩, hB.2.2.2.2.2.2.2.1⟩ ⟨⟨by omega, by omega⟩, hC.2.2.2.2.2.2.2.1⟩ (by decide) rfl ?_
  generalize hG6 : zz_up G5 (B + 6) (va_cpy (G5 (C + 6)) (G5 (B + 6)) 0 0 8) = G6
  refine zz_fin.steps (n := 1) (s' := (107, [some (.ref B), some (.ref C)], [.ref C], aa_H G6)) rfl ?_
  refine zz_fin.sgr rfl ⟨hC.1.1, by omega⟩ (hC.2.1) rfl ?_
  refine zz_fin.steps (n := 2) (s' := (112, [some (.ref B), some (.ref C)], [.ref B, .int 0, .ref (C + 7)], aa_H G6)) rfl ?_
  refine zz_fin.sgr rfl ⟨hB.1.1, by omega⟩ (hB.2.1) rfl ?_
  refine zz_fin.steps (n := 2) (s' := (118, [some (.ref B), some (.ref C)], [.int 40, .int 0, .ref (B + 7), .int 0, .ref (C + 7)], aa_H G6)) rfl ?_
  refine zz_fin.scp rfl ⟨⟨by omega, by omega⟩, hB.2.2.2.2.2.2.2.2.1⟩ ⟨⟨by omega, by omega⟩, hC.2.2.2.2.2.2.2.2.1⟩ (by decide) rfl ?_
  generalize hG7 : zz_up G6 (B + 7) (va_cpy (G6 (C + 7)) (G6 (B + 7)) 0 0 40) = G7
  refine zz_fin.steps (n := 1) (s' := (122, [some (.ref B), some (.ref C)], [.ref C], aa_H G7)) rfl ?_
  refine zz_fin.sgr rfl ⟨hC.1.1, by omega⟩ (hC.2.1) rfl ?_
  refine zz_fin.steps (n := 2) (s' := (127, [some (.ref B), some (.ref C)], [.ref B, .int 0, .ref (C + 8)], aa_H G7)) rfl ?_
  refine zz_fin.sgr rfl ⟨hB.1.1, by omega⟩ (hB.2.1) rfl ?_
  refine zz_fin.steps (n := 2) (s' := (133, [some (.ref B), some (.ref C)], [.int 40, .int 0, .ref (B + 8), .int 0, .ref (C + 8)], aa_H G7)) rfl ?_
  refine zz_fin.scp rfl ⟨⟨by omega, by omega⟩, hB.2.2.2.2.2.2.2.2.2.1⟩ ⟨⟨by omega, by omega⟩, hC.2.2.2.2.2.2.2.2.2.1⟩ (by decide) rfl ?_
  generalize hG8 : zz_up G7 (B + 8) (va_cpy (G7 (C + 8)) (G7 (B + 8)) 0 0 40) = G8
  refine zz_fin.steps (n := 1) (s' := (137, [some (.ref B), some (.ref C)], [.ref C], aa_H G8)) rfl ?_
  refine zz_fin.sgr rfl ⟨hC.1.1, by omega⟩ (hC.2.1) rfl ?_
  refine zz_fin.steps (n := 2) (s' := (142, [some (.ref B), some (.ref C)], [.ref B, .int 0, .ref (C + 9)], aa_H G8)) rfl ?_
  refine zz_fin.sgr rfl ⟨hB.1.1, by omega⟩ (hB.2.1) rfl ?_
  refine zz_fin.steps (n := 2) (s' := (148, [some (.ref B), some (.ref C)], [.int 40, .int 0, .ref (B + 9), .int 0, .ref (C + 9)], aa_H G8)) rfl ?_
  refine zz_fin.scp rfl ⟨⟨by omega, by omega⟩, hB.2.2.2.2.2.2.2.2.2.2⟩ ⟨⟨by omega, by omega⟩, hC.2.2.2.2.2.2.2.2.2.2⟩ (by decide) rfl ?_
  generalize hG9 : zz_up G8 (B + 9) (va_cpy (G8 (C + 9)) (G8 (B + 9)) 0 0 40) = G9
  have c1 := cp_arr hG1
  have c2 := cp_arr hG2
  have c3 := cp_arr hG3
  have c4 := cp_arr hG4
  have c5 := cp_arr hG5
  have c6 := cp_arr hG6
  have c7 := cp_arr hG7
  have c8 := cp_arr hG8
  have c9 := cp_arr hG9
  have b0 : (zz_w (zz_w g B 0 (g C 0)) B 1 ((zz_w g B 0 (g C 0)) C 1)) B 0 = g C 0 := by rw [aa_w_ne _ _ (by omega), aa_w_at]
  have b1 : (zz_w (zz_w g B 0 (g C 0)) B 1 ((zz_w g B 0 (g C 0)) C 1)) B 1 = g C 1 := by rw [aa_w_at, aa_w_ne _ _ (by omega)]
  have bo : ∀ k j, k ≠ B → (zz_w (zz_w g B 0 (g C 0)) B 1 ((zz_w g B 0 (g C 0)) C 1)) k j = g k j := fun k j hk => by rw [aa_w_ne _ _ fun e => hk e.1, aa_w_ne _ _ fun e => hk e.1]
  refine zz_fin.at (n := 1) rfl ⟨rfl, _, rfl, ?_, ?_⟩
  · refine ⟨fun j hj => ?_, fun o j h1 h2 hj => ?_⟩
    · rw [c9.2 _ (by omega), c8.2 _ (by omega), c7.2 _ (by omega), c6.2 _ (by omega), c5.2 _ (by omega), c4.2 _ (by omega), c3.2 _ (by omega), c2.2 _ (by omega), c1.2 _ (by omega)]
      rcases (show j = 0 ∨ j = 1 by omega) with rfl | rfl
      · exact b0
      · exact b1
    · rcases (show o = 1 ∨ o = 2 ∨ o = 3 ∨ o = 4 ∨ o = 5 ∨ o = 6 ∨ o = 7 ∨ o = 8 ∨ o = 9 by omega) with rfl | rfl | rfl | rfl | rfl | rfl | rfl | rfl | rfl
      · rw [c9.2 _ (by omega), c8.2 _ (by omega), c7.2 _ (by omega), c6.2 _ (by omega), c5.2 _ (by omega), c4.2 _ (by omega), c3.2 _ (by omega), c2.2 _ (by omega), c1.1 j (by exact hj)]
        exact bo _ _ (by omega)
      · rw [c9.2 _ (by omega), c8.2 _ (by omega), c7.2 _ (by omega), c6.2 _ (by omega), c5.2 _ (by omega), c4.2 _ (by omega), c3.2 _ (by omega), c2.1 j (by exact hj), c1.2 _ (by omega)]
        exact bo _ _ (by omega)
      · rw [c9.2 _ (by omega), c8.2 _ (by omega), c7.2 _ (by omega), c6.2 _ (by omega), c5.2 _ (by omega), c4.2 _ (by omega), c3.1 j (by exact hj), c2.2 _ (by omega), c1.2 _ (by omega)]
        exact bo _ _ (by omega)
      · rw [c9.2 _ (by omega), c8.2 _ (by omega), c7.2 _ (by omega), c6.2 _ (by omega), c5.2 _ (by omega), c4.1 j (by exact hj), c3.2 _ (by omega), c2.2 _ (by omega), c1.2 _ (by omega)]
        exact bo _ _ (by omega)
      · rw [c9.2 _ (by omega), c8.2 _ (by omega), c7.2 _ (by omega), c6.2 _ (by omega), c5.1 j (by exact hj), c4.2 _ (by omega), c3.2 _ (by omega), c2.2 _ (by omega), c1.2 _ (by omega)]
        exact bo _ _ (by omega)
      · rw [c9.2 _ (by omega), c8.2 _ (by omega), c7.2 _ (by omega), c6.1 j (by exact hj), c5.2 _ (by omega), c4.2 _ (by omega), c3.2 _ (by omega), c2.2 _ (by omega), c1.2 _ (by omega)]
        exact bo _ _ (by omega)
      · rw [c9.2 _ (by omega), c8.2 _ (by omega), c7.1 j (by exact hj), c6.2 _ (by omega), c5.2 _ (by omega), c4.2 _ (by omega), c3.2 _ (by omega), c2.2 _ (by omega), c1.2 _ (by omega)]
        exact bo _ _ (by omega)
      · rw [c9.2 _ (by omega), c8.1 j (by exact hj), c7.2 _ (by omega), c6.2 _ (by omega), c5.2 _ (by omega), c4.2 _ (by omega), c3.2 _ (by omega), c2.2 _ (by omega), c1.2 _ (by omega)]
        exact bo _ _ (by omega)
      · rw [c9.1 j (by exact hj), c8.2 _ (by omega), c7.2 _ (by omega), c6.2 _ (by omega), c5.2 _ (by omega), c4.2 _ (by omega), c3.2 _ (by omega), c2.2 _ (by omega), c1.2 _ (by omega)]
        exact bo _ _ (by omega)
  · intro k j hk
    rw [c9.2 _ (by omega), c8.2 _ (by omega), c7.2 _ (by omega), c6.2 _ (by omega), c5.2 _ (by omega), c4.2 _ (by omega), c3.2 _ (by omega), c2.2 _ (by omega), c1.2 _ (by omega)]
    exact bo _ _ (by omega)
/-- a state has become another one -/
def cp_st (g g' : aa_G) (S F : Nat) : Prop := (∀ j, j < 2 → g' S j = g F j) ∧ cp_bl g g' (S + 2) (F + 2) ∧ ∀ t, t < 4 → cp_tw g g' (5 * t + (S + 12)) (5 * t + (F + 12))
theorem cp_state {g : aa_G} {S F : Nat} (hS : cs_ok S) (hF : cs_ok F) (hd : S + 32 ≤ F ∨ F + 32 ≤ S) : zz_fin none 16 (0, zz_in [.ref S, .ref F] (zz_nl 16), [], aa_H g) (fun v h => v = none ∧ ∃ g', h = aa_H g' ∧ cp_st g g' S F ∧ cp_fr g g' S (S + 31)) := by
  have hS0 := hS.1.1
  have hF0 := hF.1.1
  refine zz_fin.steps (n := 2) (s' := (2, [some (.ref S), some (.ref F), none], [.ref F, .ref S], aa_H g)) rfl ?_
  refine zz_fin.sgf rfl ⟨hF.1.1.1, by omega⟩ (hF.1.2.1) rfl ?_
  refine zz_fin.spf rfl ⟨hS.1.1.1, by omega⟩ (hS.1.2.1) rfl ?_
  refine zz_fin.steps (n := 2) (s' := (10, [some (.ref S), some (.ref F), none], [.ref F, .ref S], aa_H (zz_w g S 0 (g F 0)))) rfl ?_
  refine zz_fin.sgf rfl ⟨hF.1.1.1, by omega⟩ (hF.1.2.1) rfl ?_
  refine zz_fin.spf rfl ⟨hS.1.1.1, by omega⟩ (hS.1.2.1) rfl ?_
  refine zz_fin.steps (n := 2) (s' := (18, [some (.ref S), some (.ref F), some (.int (Int32.ofNat 0))], [], aa_H (zz_w (zz_w g S 0 (g F 0)) S 1 ((zz_w g S 0 (g F 0)) F 1)))) rfl ?_
  generalize hG0 : zz_w (zz_w g S 0 (g F 0)) S 1 ((zz_w g S 0 (g F 0)) F 1) = G0
  refine zz_fin.steps (n := 2) (s' := (20, [some (.ref S), some (.ref F), some (.int (Int32.ofNat 0))], [.int 4, .int (Int32.ofNat 0)], aa_H G0)) rfl ?_
  refine zz_fin.ic rfl (fun cz => absurd cz (by decide)) (fun cz => ?_)
  refine zz_fin.steps (n := 1) (s' := (24, [some (.ref S), some (.ref F), some (.int (Int32.ofNat 0))], [.ref S], aa_H G0)) rfl ?_
  refine zz_fin.sgr rfl ⟨hS.1.1.1, by omega⟩ (hS.1.2.1) rfl ?_
  refine zz_fin.steps (n := 1) (s' := (28, [some (.ref S), some (.ref F), some (.int (Int32.ofNat 0))], [.int (Int32.ofNat 0), .ref (S + 1)], aa_H G0)) rfl ?_
  refine zz_fin.sal rfl ⟨by omega, by omega⟩ (hS.1.2.2) (.inl rfl) (i := 0) (by decide) rfl ?_
  refine zz_fin.steps (n := 1) (s' := (30, [some (.ref S), some (.ref F), some (.int (Int32.ofNat 0))], [.ref F, .ref (S + 12)], aa_H G0)) rfl ?_
  refine zz_fin.sgr rfl ⟨hF.1.1.1, by omega⟩ (hF.1.2.1) rfl ?_
  refine zz_fin.steps (n := 1) (s' := (34, [some (.ref S), some (.ref F), some (.int (Int32.ofNat 0))], [.int (Int32.ofNat 0), .ref (F + 1), .ref (S + 12)], aa_H G0)) rfl ?_
  refine zz_fin.sal rfl ⟨by omega, by omega⟩ (hF.1.2.2) (.inl rfl) (i := 0) (by decide) rfl ?_
  refine zz_fin.callr (as := [.ref (F + 12)]) rfl rfl rfl ⟨by omega, by omega⟩ (hS.2.2.1.2.1) (Nat.le_of_ble_eq_true rfl) (Nat.le_of_ble_eq_true rfl) (cp_town hS.2.2.1 hF.2.2.1 (by omega)) ?_
  rintro v h ⟨rfl, G1, rfl, ct0, cf0⟩
  refine zz_fin.steps (n := 2) (s' := (18, [some (.ref S), some (.ref F), some (.int ((Int32.ofNat 0) + 1))], [], aa_H G1)) rfl ?_
  rw [aa_succ]
  refine zz_fin.steps (n := 2) (s' := (20, [some (.ref S), some (.ref F), some (.int (Int32.ofNat 1))], [.int 4, .int (Int32.ofNat 1)], aa_H G1)) rfl ?_
  refine zz_fin.ic rfl (fun cz => absurd cz (by decide)) (fun cz => ?_)
  refine zz_fin.steps (n := 1) (s' := (24, [some (.ref S), some (.ref F), some (.int (Int32.ofNat 1))], [.ref S], aa_H G1)) rfl ?_
  refine zz_fin.sgr rfl ⟨hS.1.1.1, by omega⟩ (hS.1.2.1) rfl ?_
  refine zz_fin.steps (n := 1) (s' := (28, [some (.ref S), some (.ref F), some (.int (Int32.ofNat 1))], [.int (Int32.ofNat 1), .ref (S + 1)], aa_H G1)) rfl ?_
  refine zz_fin.sal rfl ⟨by omega, by omega⟩ (hS.1.2.2) (.inl rfl) (i := 1) (by decide) rfl ?_
  refine zz_fin.steps (n := 1) (s' := (30, [some (.ref S), some (.ref F), some (.int (Int32.ofNat 1))], [.ref F, .ref (S + 17)], aa_H G1)) rfl ?_
  refine zz_fin.sgr rfl ⟨hF.1.1.1, by omega⟩ (hF.1.2.1) rfl ?_
  refine zz_fin.steps (n := 1) (s' := (34, [some (.ref S), some (.ref F), some (.int (Int32.ofNat 1))], [.int (Int32.ofNat 1), .ref (F + 1), .ref (S + 17)], aa_H G1)) rfl ?_
  refine zz_fin.sal rfl ⟨by omega, by omega⟩ (hF.1.2.2) (.inl rfl) (i := 1) (by decide) rfl ?_
  refine zz_fin.callr (as := [.ref (F + 17)]) rfl rfl rfl ⟨by omega, by omega⟩ (hS.2.2.2.1.2.1) (Nat.le_of_ble_eq_true rfl) (Nat.le_of_ble_eq_true rfl) (cp_town hS.2.2.2.1 hF.2.2.2.1 (by omega)) ?_
  rintro v h ⟨rfl, G2, rfl, ct1, cf1⟩
  refine zz_fin.steps (n := 2) (s' := (18, [some (.ref S), some (.ref F), some (.int ((Int32.ofNat 1) + 1))], [], aa_H G2)) rfl ?_
  rw [aa_succ]
  refine zz_fin.steps (n := 2) (s' := (20, [some (.ref S), some (.ref F), some (.int (Int32.ofNat 2))], [.int 4, .int (Int32.ofNat 2)], aa_H G2)) rfl ?_
  refine zz_fin.ic rfl (fun cz => absurd cz (by decide)) (fun cz => ?_)
  refine zz_fin.steps (n := 1) (s' := (24, [some (.ref S), some (.ref F), some (.int (Int32.ofNat 2))], [.ref S], aa_H G2)) rfl ?_
  refine zz_fin.sgr rfl ⟨hS.1.1.1, by omega⟩ (hS.1.2.1) rfl ?_
  refine zz_fin.steps (n := 1) (s' := (28, [some (.ref S), some (.ref F), some (.int (Int32.ofNat 2))], [.int (Int32.ofNat 2), .ref (S + 1)], aa_H G2)) rfl ?_
  refine zz_fin.sal rfl ⟨by omega, by omega⟩ (hS.1.2.2) (.inl rfl) (i := 2) (by decide) rfl ?_
  refine zz_fin.steps (n := 1) (s' := (30, [some (.ref S), some (.ref F), some (.int (Int32.ofNat 2))], [.ref F, .ref (S + 22)], aa_H G2)) rfl ?_
  refine zz_fin.sgr rfl ⟨hF.1.1.1, by omega⟩ (hF.1.2.1) rfl ?_
  refine zz_fin.steps (n := 1) (s' := (34, [some (.ref S), some (.ref F), some (.int (Int32.ofNat 2))], [.int (Int32.ofNat 2), .ref (F + 1), .ref (S + 22)], aa_H G2)) rfl ?_
  refine zz_fin.sal rfl ⟨by omega, by omega⟩ (hF.1.2.2) (.inl rfl) (i := 2) (by decide) rfl ?_
  refine zz_fin.callr (as := [.ref (F + 22)]) rfl rfl rfl ⟨by omega, by omega⟩ (hS.2.2.2.2.1.2.1) (Nat.le_of_ble_eq_true rfl) (Nat.le_of_ble_eq_true rfl) (cp_town hS.2.2.2.2.1 hF.2.2.2.2.1 (by omega)) ?_
  rintro v h ⟨rfl, G3, rfl, ct2, cf2⟩
  refine zz_fin.steps (n := 2) (s' := (18, [some (.ref S), some (.ref F), some (.int ((Int32.ofNat 2) + 1))], [], aa_H G3)) rfl ?_
  rw [aa_succ]
  refine zz_fin.steps (n := 2) (s' := (20, [some (.ref S), some (.ref F), some (.int (Int32.ofNat 3))], [.int 4, .int (Int32.ofNat 3)], aa_H G3)) rfl ?_
  refine zz_fin.ic rfl (fun cz => absurd cz (by decide)) (fun cz => ?_)
  refine zz_fin.steps (n := 1) (s' := (24, [some (.ref S), some (.ref F), some (.int (Int32.ofNat 3))], [.ref S], aa_H G3)) rfl ?_
  refine zz_fin.sgr rfl ⟨hS.1.1.1, by omega⟩ (hS.1.2.1) rfl ?_
  refine zz_fin.steps (n := 1) (s' := (28, [some (.ref S), some (.ref F), some (.int (Int32.ofNat 3))], [.int (Int32.ofNat 3), .ref (S + 1)], aa_H G3)) rfl ?_
  refine zz_fin.sal rfl ⟨by omega, by omega⟩ (hS.1.2.2) (.inl rfl) (i := 3) (by decide) rfl ?_
  refine zz_fin.steps (n := 1) (s' := (30, [some (.ref S), some (.ref F), some (.int (Int32.ofNat 3))], [.ref F, .ref (S + 27)], aa_H G3)) rfl ?_
  refine zz_fin.sgr rfl ⟨hF.1.1.1, by omega⟩ (hF.1.2.1) rfl ?_
  refine zz_fin.steps (n := 1) (s' := (34, [some (.ref S), some (.ref F), some (.int (Int32.ofNat 3))], [.int (Int32.ofNat 3), .ref (F + 1), .ref (S + 27)], aa_H G3)) rfl ?_
  refine zz_fin.sal rfl ⟨by omega, by omega⟩ (hF.1.2.2) (.inl rfl) (i := 3) (by decide) rfl ?_
  refine zz_fin.callr (as := [.ref (F + 27)]) rfl rfl rfl ⟨by omega, by omega⟩ (hS.2.2.2.2.2.2.1) (Nat.le_of_ble_eq_true rfl) (Nat.le_of_ble_eq_true rfl) (cp_town hS.2.2.2.2.2 hF.2.2.2.2.2 (by omega)) ?_
  rintro v h ⟨rfl, G4, rfl, ct3, cf3⟩
  refine zz_fin.steps (n := 2) (s' := (18, [some (.ref S), some (.ref F), some (.int ((Int32.ofNat 3) + 1))], [], aa_H G4)) rfl ?_
  rw [aa_succ]
  refine zz_fin.steps (n := 2) (s' := (20, [some (.ref S), some (.ref F), some (.int (Int32.ofNat 4))], [.int 4, .int (Int32.ofNat 4)], aa_H G4)) rfl ?_
  refine zz_fin.ic rfl (fun cz => ?_) (fun cz => absurd rfl cz)
  refine zz_fin.steps (n := 1) (s' := (45, [some (.ref S), some (.ref F), some (.int (Int32.ofNat 4))], [.ref S], aa_H G4)) rfl ?_
  refine zz_fin.sgr rfl ⟨hS.1.1.1, by omega⟩ (hS.1.2.1) rfl ?_
  refine zz_fin.steps (n := 1) (s' := (49, [some (.ref S), some (.ref F), some (.int (Int32.ofNat 4))], [.ref F, .ref (S + 2)], aa_H G4)) rfl ?_
  refine zz_fin.sgr rfl ⟨hF.1.1.1, by omega⟩ (hF.1.2.1) rfl ?_
  refine zz_fin.callr (as := [.ref (F + 2)]) rfl rfl rfl ⟨by omega, by omega⟩ (hS.2.1.2.1) (Nat.le_of_ble_eq_true rfl) (Nat.le_of_ble_eq_true rfl) (cp_bells hS.2.1 hF.2.1 (by omega)) ?_
  rintro v h ⟨rfl, G5, rfl, cb, cf4⟩
  have b0 : G0 S 0 = g F 0 := by rw [← hG0, aa_w_ne _ _ (by omega), aa_w_at]
  have b1 : G0 S 1 = g F 1 := by rw [← hG0, aa_w_at, aa_w_ne _ _ (by omega)]
  have bo : ∀ k j, k ≠ S → G0 k j = g k j := fun k j hk => by rw [← hG0, aa_w_ne _ _ fun e => hk e.1, aa_w_ne _ _ fun e => hk e.1]
  refine zz_fin.at (n := 1) rfl ⟨rfl, G5, rfl, ?_, ?_⟩
  · refine ⟨fun j hj => ?_, ⟨fun j hj => ?_, fun o j h1 h2 hj => ?_⟩, fun t ht => ⟨fun j hj => ?_, fun o j h1 h2 hj => ?_⟩⟩
    · rw [cf4 _ _ (by omega), cf3 _ _ (by omega), cf2 _ _ (by omega), cf1 _ _ (by omega), cf0 _ _ (by omega)]
      rcases (show j = 0 ∨ j = 1 by omega) with rfl | rfl
      · exact b0
      · exact b1
    · rw [cb.1 j hj, cf3 _ _ (by omega), cf2 _ _ (by omega), cf1 _ _ (by omega), cf0 _ _ (by omega)]
      exact bo _ _ (by omega)
    · rw [cb.2 o j h1 h2 hj, cf3 _ _ (by omega), cf2 _ _ (by omega), cf1 _ _ (by omega), cf0 _ _ (by omega)]
      exact bo _ _ (by omega)
    · rcases dt_four ht with rfl | rfl | rfl | rfl
      · rw [show 5 * 0 + (S + 12) = S + 12 by omega, show 5 * 0 + (F + 12) = F + 12 by omega, cf4 _ _ (by omega), cf3 _ _ (by omega), cf2 _ _ (by omega), cf1 _ _ (by omega), ct0.1 j hj]
        exact bo _ _ (by omega)
      · rw [show 5 * 1 + (S + 12) = S + 17 by omega, show 5 * 1 + (F + 12) = F + 17 by omega, cf4 _ _ (by omega), cf3 _ _ (by omega), cf2 _ _ (by omega), ct1.1 j hj, cf0 _ _ (by omega)]
        exact bo _ _ (by omega)
      · rw [show 5 * 2 + (S + 12) = S + 22 by omega, show 5 * 2 + (F + 12) = F + 22 by omega, cf4 _ _ (by omega), cf3 _ _ (by omega), ct2.1 j hj, cf1 _ _ (by omega), cf0 _ _ (by omega)]
        exact bo _ _ (by omega)
      · rw [show 5 * 3 + (S + 12) = S + 27 by omega, show 5 * 3 + (F + 12) = F + 27 by omega, cf4 _ _ (by omega), ct3.1 j hj, cf2 _ _ (by omega), cf1 _ _ (by omega), cf0 _ _ (by omega)]
        exact bo _ _ (by omega)
    · rcases dt_four ht with rfl | rfl | rfl | rfl
      · rw [show 5 * 0 + (S + 12) = S + 12 by omega, show 5 * 0 + (F + 12) = F + 12 by omega, cf4 _ _ (by omega), cf3 _ _ (by omega), cf2 _ _ (by omega), cf1 _ _ (by omega), ct0.2 o j h1 h2 hj]
        exact bo _ _ (by omega)
      · rw [show 5 * 1 + (S + 12) = S + 17 by omega, show 5 * 1 + (F + 12) = F + 17 by omega, cf4 _ _ (by omega), cf3 _ _ (by omega), cf2 _ _ (by omega), ct1.2 o j h1 h2 hj, cf0 _ _ (by omega)]
        exact bo _ _ (by omega)
      · rw [show 5 * 2 + (S + 12) = S + 22 by omega, show 5 * 2 + (F + 12) = F + 22 by omega, cf4 _ _ (by omega), cf3 _ _ (by omega), ct2.2 o j h1 h2 hj, cf1 _ _ (by omega), cf0 _ _ (by omega)]
        exact bo _ _ (by omega)
      · rw [show 5 * 3 + (S + 12) = S + 27 by omega, show 5 * 3 + (F + 12) = F + 27 by omega, cf4 _ _ (by omega), ct3.2 o j h1 h2 hj, cf2 _ _ (by omega), cf1 _ _ (by omega), cf0 _ _ (by omega)]
        exact bo _ _ (by omega)
  · intro k j hk
    rw [cf4 _ _ (by omega), cf3 _ _ (by omega), cf2 _ _ (by omega), cf1 _ _ (by omega), cf0 _ _ (by omega)]
    exact bo _ _ (by omega)
end
section
/-! THE CLASS'S DEEDS: remember, takeBack, adopt; endOfReading -/
theorem cs_ring {e : Nat} (he : e < 12) : cs_ok (32 * e + 68) := by
  have h : ∀ e, e < 12 → 32 * e + 68 ∈ cs_all := by decide
  exact cs_of (h e he)
theorem cs_67 : zz_ly 67 = .inr (.inl (4, (List.range 12).map fun e => some (32 * e + 68))) := by decide +kernel
theorem cs_67at {e : Nat} (he : e < 12) : ((List.range 12).map fun e => some (32 * e + 68))[e]? = some (some (32 * e + 68)) := by
  rw [List.getElem?_map, List.getElem?_range he]
  rfl
theorem aa_rem12 {m : Nat} (h : m < 24) : Int32.ofNat m - Int32.ofNat m / 12 * 12 = Int32.ofNat (m % 12) := by
  have k : ∀ m, m < 24 → Int32.ofNat m - Int32.ofNat m / 12 * 12 = Int32.ofNat (m % 12) := by decide
  exact k m h
theorem aa_min12 {c : Nat} (h : c < 13) : (if (12 : Int32) < Int32.ofNat (c + 1) then (12 : Int32) else Int32.ofNat (c + 1)) = Int32.ofNat (min (c + 1) 12) := by
  have k : ∀ c, c < 13 → (if (12 : Int32) < Int32.ofNat (c + 1) then (12 : Int32) else Int32.ofNat (c + 1)) = Int32.ofNat (min (c + 1) 12) := by decide
  exact k c h
/-- a state comes to the class's deeds: its place in the ring, the ring's count and next -/
def cd_push (g g' : aa_G) (S e c : Nat) : Prop := cp_st g g' (32 * e + 68) S ∧ g' 66 0 = Int32.ofNat (min (c + 1) 12) ∧ g' 66 1 = Int32.ofNat ((e + 1) % 12) ∧ ∀ k j, ¬ (32 * e + 68 ≤ k ∧ k ≤ 32 * e + 99) → ¬ (k = 66 ∧ j ≤ 1) → g' k j = g k j
theorem cd_rem {g : aa_G} {e c : Nat} (he : e < 12) (hc : c ≤ 12) (h0 : g 66 0 = Int32.ofNat c) (h1 : g 66 1 = Int32.ofNat e) : zz_fin none 40 (0, zz_in [.ref 66, .ref 2] (zz_nl 40), [], aa_H g) (fun v h => v = none ∧ ∃ g', h = aa_H g' ∧ cd_push g g' 2 e c) := by
  refine zz_fin.steps (n := 4) (s' := (8, [some (.ref 66), some (.ref 2)], [.int (g 66 1), .ref 67], aa_H g)) rfl ?_
  rw [h1]
  refine zz_fin.sal rfl ⟨by decide, by decide⟩ cs_67 (.inr rfl) (i := e) (by omega) (cs_67at he) ?_
  refine zz_fin.steps (n := 1) (s' := (10, [some (.ref 66), some (.ref 2)], [.ref 2, .ref (32 * e + 68)], aa_H g)) rfl ?_
  refine zz_fin.callr (k := 32 * e + 68) (as := [.ref 2]) rfl rfl rfl ⟨by omega, by omega⟩ (cs_ring he).1.2.1 (Nat.le_of_ble_eq_true rfl) (Nat.le_of_ble_eq_true rfl) (cp_state (cs_ring he) cs_ok_2 (by omega)) ?_
  rintro v h ⟨rfl, g1, rfl, k1, k2⟩
  have h0' : g1 66 0 = Int32.ofNat c := (k2 66 0 (by omega)).trans h0
  have h1' : g1 66 1 = Int32.ofNat e := (k2 66 1 (by omega)).trans h1
  refine zz_fin.steps (n := 5) (s' := (20, [some (.ref 66), some (.ref 2)], [.int ((g1 66 1) + 1), .ref 66], aa_H g1)) rfl ?_
  rw [h1', aa_succ]
  refine zz_fin.steps (n := 2) (s' := (23, [some (.ref 66), some (.ref 2)], [.int ((Int32.ofNat (e + 1)) - (Int32.ofNat (e + 1)) / 12 * 12), .ref 66], aa_H g1)) rfl ?_
  rw [aa_rem12 (by omega)]
  refine zz_fin.steps (n := 6) (s' := (33, [some (.ref 66), some (.ref 2)], [.int (((zz_w g1 66 1 (Int32.ofNat ((e + 1) % 12))) 66 0) + 1), .ref 66], aa_H (zz_w g1 66 1 (Int32.ofNat ((e + 1) % 12))))) rfl ?_
  rw [show zz_w g1 66 1 (Int32.ofNat ((e + 1) % 12)) 66 0 = Int32.ofNat c from h0', aa_succ]
  refine zz_fin.steps (n := 1) (s' := (35, [some (.ref 66), some (.ref 2)], [.int 12, .int (Int32.ofNat (c + 1)), .ref 66], aa_H (zz_w g1 66 1 (Int32.ofNat ((e + 1) % 12))))) rfl ?_
  refine zz_fin.steps (n := 1) (s' := (38, [some (.ref 66), some (.ref 2)], [.int (if (12 : Int32) < Int32.ofNat (c + 1) then (12 : Int32) else Int32.ofNat (c + 1)), .ref 66], aa_H (zz_w g1 66 1 (Int32.ofNat ((e + 1) % 12))))) rfl ?_
  rw [aa_min12 (by omega)]
  refine zz_fin.steps (n := 1) (s' := (41, [some (.ref 66), some (.ref 2)], [], aa_H (zz_w (zz_w g1 66 1 (Int32.ofNat ((e + 1) % 12))) 66 0 (Int32.ofNat (min (c + 1) 12))))) rfl ?_
  refine zz_fin.at (n := 1) rfl ⟨rfl, _, rfl, ⟨⟨fun j hj => ?_, ⟨fun j hj => ?_, fun o j o1 o2 hj => ?_⟩, fun t ht => ⟨fun j hj => ?_, fun o j o1 o2 hj => ?_⟩⟩, ?_, ?_, fun k j hk hkj => ?_⟩⟩
  · rw [aa_w_ne _ _ (by omega), aa_w_ne _ _ (by omega)]; exact k1.1 j hj
  · rw [aa_w_ne _ _ (by omega), aa_w_ne _ _ (by omega)]; exact k1.2.1.1 j hj
  · rw [aa_w_ne _ _ (by omega), aa_w_ne _ _ (by omega)]; exact k1.2.1.2 o j o1 o2 hj
  · rw [aa_w_ne _ _ (by omega), aa_w_ne _ _ (by omega)]; exact (k1.2.2 t ht).1 j hj
  · rw [aa_w_ne _ _ (by omega), aa_w_ne _ _ (by omega)]; exact (k1.2.2 t ht).2 o j o1 o2 hj
  · rw [aa_w_at]
  · rw [aa_w_ne _ _ (by omega), aa_w_at]
  · rw [aa_w_ne _ _ (by omega), aa_w_ne _ _ (by omega)]; exact k2 k j hk
theorem cd_adopt {g : aa_G} {F e c : Nat} (hF : cs_ok F) (hF2 : 34 ≤ F) (he : e < 12) (hc : c ≤ 12) (h0 : g 66 0 = Int32.ofNat c) (h1 : g 66 1 = Int32.ofNat e) : zz_fin none 39 (0, zz_in [.ref 1, .ref F] (zz_nl 39), [], aa_H g) (fun v h => v = none ∧ ∃ g1 g', h = aa_H g' ∧ cd_push g g1 2 e c ∧ cp_st g1 g' 2 F ∧ cp_fr g1 g' 2 33) := by
  refine zz_fin.steps (n := 4) (s' := (8, [some (.ref 1), some (.ref F)], [.ref 2, .ref 66], aa_H g)) rfl ?_
  refine zz_fin.call rfl rfl (Nat.le_of_ble_eq_true rfl) (cd_rem he hc h0 h1) ?_
  rintro v h ⟨rfl, g1, rfl, hp⟩
  refine zz_fin.steps (n := 3) (s' := (16, [some (.ref 1), some (.ref F)], [.ref F, .ref 2], aa_H g1)) rfl ?_
  refine zz_fin.call rfl rfl (Nat.le_of_ble_eq_true rfl) (cp_state cs_ok_2 hF (show 2 + 32 ≤ F ∨ F + 32 ≤ 2 by omega)) ?_
  rintro v h ⟨rfl, g', rfl, k1, k2⟩
  exact zz_fin.at (n := 1) rfl ⟨rfl, g1, g', rfl, hp, k1, k2⟩
theorem ct_eor {g : aa_G} : zz_fin none 38 (0, zz_in [.ref 1] (zz_nl 38), [], aa_H g) (fun v h => v = none ∧ h = aa_H (zz_w (zz_w g 1 13 (g 454 4)) 454 0 0)) := by
  refine zz_fin.steps (n := 9) (s' := (19, [some (.ref 1)], [], aa_H (zz_w (zz_w g 1 13 (g 454 4)) 454 0 0))) rfl ?_
  exact zz_fin.at (n := 1) rfl ⟨rfl, rfl⟩
/-- the latest deed goes -/
theorem aa_el12 {e : Nat} (he : e < 12) : Int32.ofNat e + 12 - 1 = Int32.ofNat (e + 11) := by
  have k : ∀ e, e < 12 → Int32.ofNat e + 12 - 1 = Int32.ofNat (e + 11) := by decide
  exact k e he
theorem aa_pred {p : Nat} (h : p ≠ 0) (hp : p < 2147483648) : Int32.ofNat p - 1 = Int32.ofNat (p - 1) := aa_eqN (by rw [aa_sub32 (by rw [zz_ofN hp, show (1 : Int32).toInt = 1 from rfl]; omega) (by rw [zz_ofN hp, show (1 : Int32).toInt = 1 from rfl]; omega), zz_ofN hp, show (1 : Int32).toInt = 1 from rfl]; omega) (by omega)
def cd_pop (g g' : aa_G) (e c : Nat) : Prop := cp_st g g' 2 (32 * ((e + 11) % 12) + 68) ∧ g' 66 0 = Int32.ofNat (c - 1) ∧ g' 66 1 = Int32.ofNat ((e + 11) % 12) ∧ ∀ k j, ¬ (2 ≤ k ∧ k ≤ 33) → ¬ (k = 66 ∧ j ≤ 1) → g' k j = g k j
theorem cd_back {g : aa_G} {e c : Nat} (he : e < 12) (hc : c ≤ 12) (h0 : g 66 0 = Int32.ofNat c) (h1 : g 66 1 = Int32.ofNat e) : zz_fin none 142 (0, zz_in [.ref 66, .ref 2] (zz_nl 142), [], aa_H g) (fun v h => (c = 0 ∧ v = some (.int 0) ∧ h = aa_H g) ∨ (c ≠ 0 ∧ v = some (.int 1) ∧ ∃ g', h = aa_H g' ∧ cd_pop g g' e c)) := by
  refine zz_fin.steps (n := 2) (s' := (4, [some (.ref 66), some (.ref 2)], [.int (g 66 0)], aa_H g)) rfl ?_
  rw [h0]
  refine zz_fin.if rfl (fun c1 => ?_) (fun c1 => ?_)
  · have c1 : Int32.ofNat c ≠ 0 := of_decide_eq_true c1
    have hc0 : c ≠ 0 := fun z => c1 (by rw [z]; rfl)
    have hp : (e + 11) % 12 < 12 := by omega
    refine zz_fin.steps (n := 7) (s' := (19, [some (.ref 66), some (.ref 2)], [.int (((g 66 1) + 12) - 1), .ref 66], aa_H g)) rfl ?_
    rw [h1, aa_el12 he]
    refine zz_fin.steps (n := 2) (s' := (22, [some (.ref 66), some (.ref 2)], [.int ((Int32.ofNat (e + 11)) - (Int32.ofNat (e + 11)) / 12 * 12), .ref 66], aa_H g)) rfl ?_
    rw [aa_rem12 (by omega)]
    refine zz_fin.steps (n := 6) (s' := (34, [some (.ref 66), some (.ref 2)], [.int (Int32.ofNat ((e + 11) % 12)), .ref 67, .ref 2], aa_H (zz_w g 66 1 (Int32.ofNat ((e + 11) % 12))))) rfl ?_
    refine zz_fin.sal rfl ⟨by decide, by decide⟩ cs_67 (.inr rfl) (i := (e + 11) % 12) (by omega) (cs_67at hp) ?_
    refine zz_fin.call rfl rfl (Nat.le_of_ble_eq_true rfl) (cp_state cs_ok_2 (cs_ring hp) (show 2 + 32 ≤ 32 * ((e + 11) % 12) + 68 ∨ 32 * ((e + 11) % 12) + 68 + 32 ≤ 2 by omega)) ?_
    rintro v h ⟨rfl, g1, rfl, k1, k2⟩
    have k2 : cp_fr (zz_w g 66 1 (Int32.ofNat ((e + 11) % 12))) g1 2 33 := k2
    have h0' : g1 66 0 = Int32.ofNat c := (k2 66 0 (by omega)).trans ((aa_w_ne _ _ (by omega)).trans h0)
    refine zz_fin.steps (n := 5) (s' := (45, [some (.ref 66), some (.ref 2)], [.int ((g1 66 0) - 1), .ref 66], aa_H g1)) rfl ?_
    rw [h0', aa_pred hc0 (by omega)]
    refine zz_fin.steps (n := 2) (s' := (49, [some (.ref 66), some (.ref 2)], [.int 1], aa_H (zz_w g1 66 0 (Int32.ofNat (c - 1))))) rfl ?_
    refine zz_fin.at (n := 1) rfl (.inr ⟨hc0, rfl, _, rfl, ⟨⟨fun j hj => ?_, ⟨fun j hj => ?_, fun o j o1 o2 hj => ?_⟩, fun t ht => ⟨fun j hj => ?_, fun o j o1 o2 hj => ?_⟩⟩, aa_w_at _ _ _ _, ?_, fun k j hk hkj => ?_⟩⟩)
    · rw [aa_w_ne _ _ (by omega)]; exact (k1.1 j hj).trans (aa_w_ne _ _ (by omega))
    · rw [aa_w_ne _ _ (by omega)]; exact (k1.2.1.1 j hj).trans (aa_w_ne _ _ (by omega))
    · rw [aa_w_ne _ _ (by omega)]; exact (k1.2.1.2 o j o1 o2 hj).trans (aa_w_ne _ _ (by omega))
    · rw [aa_w_ne _ _ (by omega)]; exact ((k1.2.2 t ht).1 j hj).trans (aa_w_ne _ _ (by omega))
    · rw [aa_w_ne _ _ (by omega)]; exact ((k1.2.2 t ht).2 o j o1 o2 hj).trans (aa_w_ne _ _ (by omega))
    · rw [aa_w_ne _ _ (by omega)]; exact (k2 66 1 (by omega)).trans (aa_w_at _ _ _ _)
    · rw [aa_w_ne _ _ (by omega)]; exact (k2 k j hk).trans (aa_w_ne _ _ (by omega))
  · have c1 : Int32.ofNat c = 0 := Decidable.byContradiction fun z => c1 (decide_eq_true z)
    have hc0 : c = 0 := by have e := zz_ofN (n := c) (by omega); rw [c1, show (0 : Int32).toInt = 0 from rfl] at e; omega
    refine zz_fin.steps (n := 1) (s' := (8, [some (.ref 66), some (.ref 2)], [.int 0], aa_H g)) rfl ?_
    exact zz_fin.at (n := 1) rfl (.inl ⟨hc0, rfl, rfl⟩)
end
section
/-! A TEXT: what both sides do; the class's side -/
/-- towns, their offsets; points, field by field (day of the year, dawn, dusk, polar) -/
abbrev sp_A : Type := (Nat × (Nat → Int32)) × ((Nat → Nat) × (Nat → Nat → Nat → Int32))
def sp_town (A : sp_A) (z : Int32) : sp_A := ((A.1.1 + 1, fun t => if t = A.1.1 then z else A.1.2 t), (fun t => if t = A.1.1 then 0 else A.2.1 t, A.2.2))
def sp_fld (y d k p : Int32) : Nat → Int32
  | 0 => y
  | 1 => d
  | 2 => k
  | _ => p
def sp_point (A : sp_A) (y d k p : Int32) : sp_A := (A.1, (fun t => if t = A.1.1 - 1 then A.2.1 t + 1 else A.2.1 t, fun t i f => if t = A.1.1 - 1 ∧ i = A.2.1 (A.1.1 - 1) then sp_fld y d k p f else A.2.2 t i f))
def sp_low (A : sp_A) : Int32 := (if A.2.1 (A.1.1 - 1) = 0 then -1 else A.2.2 (A.1.1 - 1) (A.2.1 (A.1.1 - 1) - 1) 0) + 1
/-- then, in order: a fault ends all -/
def sp_then (r : Nat ⊕ (Nat × Int32)) (k : Nat → Int32 → Nat ⊕ (Nat × sp_A)) : Nat ⊕ (Nat × sp_A) := match r with
  | .inl f => .inl f
  | .inr (q, z) => k q z
def sp_pass (b : Nat → Int32) (n : Nat) (c : Int32) (p : Nat) (k : Nat → Nat ⊕ (Nat × sp_A)) : Nat ⊕ (Nat × sp_A) := if sp_hb b n p = c then k (p + 1) else .inl p
def sp_rtown (b : Nat → Int32) (n p : Nat) (A : sp_A) : Nat ⊕ (Nat × sp_A) := if A.1.1 = 4 then .inl p else sp_then (sp_num b n true (-43200) 43200 (p + 1)) fun q z => .inr (q, sp_town A z)
def sp_hours (b : Nat → Int32) (n p : Nat) (y : Int32) (A : sp_A) : Nat ⊕ (Nat × sp_A) := sp_then (sp_num b n true 0 86399 p) fun q d => sp_pass b n 44 q fun q => sp_then (sp_num b n true (d + 1) 86399 q) fun q k => .inr (q, sp_point A y d k (-1))
def sp_kind (b : Nat → Int32) (n p : Nat) (y : Int32) (A : sp_A) : Nat ⊕ (Nat × sp_A) := sp_then (sp_num b n true 0 1 p) fun q z => .inr (q, sp_point A y (-1) (-1) z)
/-- an item without its end -/
def sp_item (b : Nat → Int32) (n p : Nat) (A : sp_A) : Nat ⊕ (Nat × sp_A) :=
  if sp_hb b n p = 116 then sp_rtown b n p A else
  if (sp_hb b n p = 112 ∨ sp_hb b n p = 120) ∧ A.1.1 ≠ 0 ∧ A.2.1 (A.1.1 - 1) ≠ 12 then sp_then (sp_num b n true (sp_low A) 359 (p + 1)) fun q y => sp_pass b n 44 q fun q => if sp_hb b n p = 112 then sp_hours b n q y A else sp_kind b n q y A
  else .inl p
/-- a class's town, a class's state -/
def cvt (g : aa_G) (T : Nat) (o : Int32) (c : Nat) (f : Nat → Nat → Int32) : Prop := g T 0 = o ∧ g T 1 = Int32.ofNat c ∧ c ≤ 12 ∧ ∀ i, i < c → g (T + 1) i = f i 0 ∧ g (T + 2) i = f i 1 ∧ g (T + 3) i = f i 2 ∧ g (T + 4) i = f i 3
def cvs (g : aa_G) (S : Nat) (A : sp_A) : Prop := g S 0 = Int32.ofNat A.1.1 ∧ A.1.1 ≤ 4 ∧ ∀ t, t < A.1.1 → cvt g (5 * t + (S + 12)) (A.1.2 t) (A.2.1 t) (A.2.2 t)
theorem cvs_of {g g' : aa_G} {S : Nat} {A : sp_A} (h : cvs g S A) (hf : ∀ k j, S ≤ k → k < S + 32 → g' k j = g k j) : cvs g' S A := by
  obtain ⟨h1, h2, h3⟩ := h
  refine ⟨(hf S 0 (Nat.le_refl _) (by omega)).trans h1, h2, fun t ht => ?_⟩
  obtain ⟨k1, k2, k3, k4⟩ := h3 t ht
  refine ⟨(hf _ _ (by omega) (by omega)).trans k1, (hf _ _ (by omega) (by omega)).trans k2, k3, fun i hi => ?_⟩
  obtain ⟨m1, m2, m3, m4⟩ := k4 i hi
  exact ⟨(hf _ _ (by omega) (by omega)).trans m1, (hf _ _ (by omega) (by omega)).trans m2, (hf _ _ (by omega) (by omega)).trans m3, (hf _ _ (by omega) (by omega)).trans m4⟩
/-- the text's reading: of the draft, and of the tape's number alone, has anything changed -/
def ct_fr (g g' : aa_G) : Prop := ∀ k j, ¬ ((46 ≤ k ∧ k ≤ 65) ∨ (k = 34 ∧ j = 0)) → ¬ (k = 454 ∧ 1 ≤ j ∧ j ≤ 3) → g' k j = g k j
def ct_bad (g : aa_G) (f : Nat) (g' : aa_G) : Prop := (∀ k j, ¬ ((46 ≤ k ∧ k ≤ 65) ∨ (k = 34 ∧ j = 0)) → ¬ (k = 454 ∧ 1 ≤ j ∧ j ≤ 4) → g' k j = g k j) ∧ g' 454 4 = Int32.ofNat f
theorem ct_fr.rf {g : aa_G} : ct_fr g g := fun _ _ _ _ => rfl
theorem ct_fr.tr {g g1 g2 : aa_G} (h1 : ct_fr g g1) (h2 : ct_fr g1 g2) : ct_fr g g2 := fun k j a b => (h2 k j a b).trans (h1 k j a b)
theorem ct_fr.bad {g g1 g2 : aa_G} {f : Nat} (h1 : ct_fr g g1) (h2 : tc_bad g1 f g2) : ct_bad g f g2 := ⟨fun k j a b => (h2.1 k j b).trans (h1 k j a fun e => b ⟨e.1, e.2.1, by omega⟩), h2.2⟩
theorem ct_fr.bad2 {g g1 g2 : aa_G} {f : Nat} (h1 : ct_fr g g1) (h2 : ct_bad g1 f g2) : ct_bad g f g2 := ⟨fun k j a b => (h2.1 k j a b).trans (h1 k j a fun e => b ⟨e.1, e.2.1, by omega⟩), h2.2⟩
theorem ct_fr.num {g : aa_G} (z : Int32) : ct_fr g (zz_w g 454 3 z) := fun k j _ b => aa_w_ne _ _ fun e => b ⟨e.1, by omega, by omega⟩
theorem ct_ok {g g' : aa_G} {b : Nat → Int32} {n : Nat} (h : tc_ok g b n) (hf : ct_fr g g') : tc_ok g' b n := ⟨(hf 454 0 (by omega) (by omega)).trans h.1, h.2.1, fun j hj => (hf 455 j (by omega) (by omega)).trans (h.2.2 j hj)⟩
theorem cvs_num {g : aa_G} {A : sp_A} {z : Int32} (h : cvs g 34 A) : cvs (zz_w g 454 3 z) 34 A := cvs_of h fun k j _ _ => aa_w_ne _ _ (by omega)
theorem cvs_at {g : aa_G} {A : sp_A} {b : Nat → Int32} {n p : Nat} (h : cvs g 34 A) : cvs (tc_at g b n p) 34 A := cvs_of h fun k j _ _ => by
  unfold tc_at
  rw [aa_w_ne _ _ (by omega), aa_w_ne _ _ (by omega)]
/-- what the reading of a piece answers -/
def ct_res (g : aa_G) (b : Nat → Int32) (n : Nat) (r : Nat ⊕ (Nat × sp_A)) (v : Option Value) (h : zz_H) : Prop := (∃ f, r = .inl f ∧ v = some (.int 0) ∧ ∃ g', h = aa_H g' ∧ ct_bad g f g') ∨ (∃ q A', r = .inr (q, A') ∧ q ≤ n ∧ v = some (.int 1) ∧ ∃ g', h = aa_H (tc_at g' b n q) ∧ ct_fr g g' ∧ cvs g' 34 A')
theorem sp_num_n {b : Nat → Int32} {n p q : Nat} {neg : Bool} {lo hi z : Int32} (h : sp_num b n neg lo hi p = .inr (q, z)) (hp : p ≤ n) : q ≤ n ∧ p < q := by
  unfold sp_num at h
  dsimp only at h
  have ha : (if sp_neg b n p neg = true then p + 1 else p) ≤ n ∧ p ≤ (if sp_neg b n p neg = true then p + 1 else p) := by
    split
    · rename_i hn
      unfold sp_neg at hn
      rw [Bool.and_eq_true, decide_eq_true_eq] at hn
      have : p < n := Decidable.byContradiction fun z => by
        have e := hn.2
        rw [show sp_hb b n p = -1 from if_neg z] at e
        cases e
      omega
    · exact ⟨hp, Nat.le_refl _⟩
  generalize (if sp_neg b n p neg = true then p + 1 else p) = a at h ha
  split at h
  · cases h
  · rename_i hc
    generalize (if sp_neg b n p neg = true then -(sp_run b n 5 a 0).2 else (sp_run b n 5 a 0).2) = v at h
    split at h
    · cases h
    · have h := Sum.inr.inj h
      have h1 : (sp_run b n 5 a 0).1 = q := congrArg Prod.fst h
      have h2 := sp_run_le b n 5 a 0
      have h3 := sp_run_n b n 5 a 0 ha.1
      have h4 : ¬ (sp_run b n 5 a 0).1 = a := fun e => hc (.inl e)
      omega
end
section
/-! A TEXT: the class's side, walked -/
theorem tc_comm (g : aa_G) (b : Nat → Int32) (n p : Nat) {k j : Nat} {v : Int32} (h : k ≠ 454) : zz_w (tc_at g b n p) k j v = tc_at (zz_w g k j v) b n p := by
  unfold tc_at
  rw [zz_w_comm _ (k := 454) (j := 2) (a := k) (b := j) _ _ (fun e => h e.1), zz_w_comm g (k := 454) (j := 1) (a := k) (b := j) _ _ (fun e => h e.1)]
theorem cvs_town {g : aa_G} {A : sp_A} {z : Int32} (h : cvs g 34 A) (h4 : A.1.1 < 4) : cvs (zz_w (zz_w (zz_w g (5 * A.1.1 + 46) 0 z) (5 * A.1.1 + 46) 1 0) 34 0 (Int32.ofNat (A.1.1 + 1))) 34 (sp_town A z) := by
  obtain ⟨h1, h2, h3⟩ := h
  refine ⟨aa_w_at _ _ _ _, (show A.1.1 + 1 ≤ 4 by omega), fun t ht => ?_⟩
  have ht : t < A.1.1 + 1 := ht
  by_cases e : t = A.1.1
  · subst e
    refine ⟨?_, ?_, ?_, fun i hi => ?_⟩
    · rw [aa_w_ne _ _ (by omega), aa_w_ne _ _ (by omega), aa_w_at]
      exact (if_pos rfl).symm
    · rw [aa_w_ne _ _ (by omega), aa_w_at]
      show (0 : Int32) = Int32.ofNat (if A.1.1 = A.1.1 then 0 else A.2.1 A.1.1)
      rw [if_pos rfl]
      rfl
    · show (if A.1.1 = A.1.1 then 0 else A.2.1 A.1.1) ≤ 12
      rw [if_pos rfl]
      omega
    · have hi : i < (if A.1.1 = A.1.1 then 0 else A.2.1 A.1.1) := hi
      rw [if_pos rfl] at hi
      exact absurd hi (Nat.not_lt_zero i)
  · obtain ⟨k1, k2, k3, k4⟩ := h3 t (by omega)
    refine ⟨?_, ?_, ?_, fun i hi => ?_⟩
    · rw [aa_w_ne _ _ (by omega), aa_w_ne _ _ (by omega), aa_w_ne _ _ (by omega)]
      exact k1.trans (if_neg e).symm
    · rw [aa_w_ne _ _ (by omega), aa_w_ne _ _ (by omega), aa_w_ne _ _ (by omega)]
      show _ = Int32.ofNat (if t = A.1.1 then 0 else A.2.1 t)
      rw [if_neg e]
      exact k2
    · show (if t = A.1.1 then 0 else A.2.1 t) ≤ 12
      rw [if_neg e]
      exact k3
    · have hi : i < (if t = A.1.1 then 0 else A.2.1 t) := hi
      rw [if_neg e] at hi
      obtain ⟨m1, m2, m3, m4⟩ := k4 i hi
      refine ⟨?_, ?_, ?_, ?_⟩
      · rw [aa_w_ne _ _ (by omega), aa_w_ne _ _ (by omega), aa_w_ne _ _ (by omega)]; exact m1
      · rw [aa_w_ne _ _ (by omega), aa_w_ne _ _ (by omega), aa_w_ne _ _ (by omega)]; exact m2
      · rw [aa_w_ne _ _ (by omega), aa_w_ne _ _ (by omega), aa_w_ne _ _ (by omega)]; exact m3
      · rw [aa_w_ne _ _ (by omega), aa_w_ne _ _ (by omega), aa_w_ne _ _ (by omega)]; exact m4
/-- a point is laid behind a town's others -/
def ct_pt (g : aa_G) (t i : Nat) (y d k p : Int32) : aa_G := zz_w (zz_w (zz_w (zz_w (zz_w g (5 * t + 47) i y) (5 * t + 48) i d) (5 * t + 49) i k) (5 * t + 50) i p) (5 * t + 46) 1 (Int32.ofNat (i + 1))
theorem ct_pt_ne {g : aa_G} {t i : Nat} {y d k p : Int32} {a b : Nat} (h : ¬ ((5 * t + 47 ≤ a ∧ a ≤ 5 * t + 50 ∧ b = i) ∨ (a = 5 * t + 46 ∧ b = 1))) : ct_pt g t i y d k p a b = g a b := by
  unfold ct_pt
  rw [aa_w_ne _ _ (by omega), aa_w_ne _ _ (by omega), aa_w_ne _ _ (by omega), aa_w_ne _ _ (by omega), aa_w_ne _ _ (by omega)]
theorem ct_pt_at {g : aa_G} {t i : Nat} {y d k p : Int32} : ct_pt g t i y d k p (5 * t + 47) i = y ∧ ct_pt g t i y d k p (5 * t + 48) i = d ∧ ct_pt g t i y d k p (5 * t + 49) i = k ∧ ct_pt g t i y d k p (5 * t + 50) i = p ∧ ct_pt g t i y d k p (5 * t + 46) 1 = Int32.ofNat (i + 1) := by
  unfold ct_pt
  refine ⟨?_, ?_, ?_, ?_, ?_⟩
  · rw [aa_w_ne _ _ (by omega), aa_w_ne _ _ (by omega), aa_w_ne _ _ (by omega), aa_w_ne _ _ (by omega), aa_w_at]
  · rw [aa_w_ne _ _ (by omega), aa_w_ne _ _ (by omega), aa_w_ne _ _ (by omega), aa_w_at]
  · rw [aa_w_ne _ _ (by omega), aa_w_ne _ _ (by omega), aa_w_at]
  · rw [aa_w_ne _ _ (by omega), aa_w_at]
  · rw [aa_w_at]
theorem cvs_point {g : aa_G} {A : sp_A} {y d k p : Int32} (h : cvs g 34 A) (h0 : A.1.1 ≠ 0) (hc : A.2.1 (A.1.1 - 1) < 12) : cvs (ct_pt g (A.1.1 - 1) (A.2.1 (A.1.1 - 1)) y d k p) 34 (sp_point A y d k p) := by
  obtain ⟨h1, h2, h3⟩ := h
  refine ⟨(ct_pt_ne (by omega)).trans h1, h2, fun t ht => ?_⟩
  have ht : t < A.1.1 := ht
  obtain ⟨k1, k2, k3, k4⟩ := h3 t ht
  refine ⟨(ct_pt_ne (by omega)).trans k1, ?_, ?_, fun i hi => ?_⟩
  · show _ = Int32.ofNat (if t = A.1.1 - 1 then A.2.1 t + 1 else A.2.1 t)
    by_cases e : t = A.1.1 - 1
    · rw [if_pos e, e]
      exact ct_pt_at.2.2.2.2
    · rw [if_neg e]
      exact (ct_pt_ne (by omega)).trans k2
  · show (if t = A.1.1 - 1 then A.2.1 t + 1 else A.2.1 t) ≤ 12
    split
    · rename_i e
      rw [e]
      omega
    · exact k3
  · have hi : i < (if t = A.1.1 - 1 then A.2.1 t + 1 else A.2.1 t) := hi
    by_cases e : t = A.1.1 - 1 ∧ i = A.2.1 (A.1.1 - 1)
    · obtain ⟨rfl, rfl⟩ := e
      obtain ⟨q1, q2, q3, q4, -⟩ := ct_pt_at (g := g) (t := A.1.1 - 1) (i := A.2.1 (A.1.1 - 1)) (y := y) (d := d) (k := k) (p := p)
      have f : ∀ f, (sp_point A y d k p).2.2 (A.1.1 - 1) (A.2.1 (A.1.1 - 1)) f = sp_fld y d k p f := fun f => if_pos ⟨rfl, rfl⟩
      rw [f, f, f, f]
      exact ⟨q1, q2, q3, q4⟩
    · have hi2 : i < A.2.1 t := by
        split at hi
        · rename_i e2
          have : i ≠ A.2.1 (A.1.1 - 1) := fun z => e ⟨e2, z⟩
          rw [e2] at hi ⊢
          omega
        · exact hi
      obtain ⟨m1, m2, m3, m4⟩ := k4 i hi2
      have f : ∀ f, (sp_point A y d k p).2.2 t i f = A.2.2 t i f := fun f => if_neg e
      have ne : ∀ a b, (5 * t + 47 ≤ a ∧ a ≤ 5 * t + 50 ∧ b = i) → ct_pt g (A.1.1 - 1) (A.2.1 (A.1.1 - 1)) y d k p a b = g a b := fun a b hab => ct_pt_ne fun z => by
        rcases z with z | z
        · by_cases e2 : t = A.1.1 - 1
          · exact e ⟨e2, by omega⟩
          · omega
        · omega
      rw [f, f, f, f]
      exact ⟨(ne _ _ (by omega)).trans m1, (ne _ _ (by omega)).trans m2, (ne _ _ (by omega)).trans m3, (ne _ _ (by omega)).trans m4⟩
theorem ct_pt_fr {g : aa_G} {t i : Nat} {y d k p : Int32} (ht : t < 4) : ct_fr g (ct_pt g t i y d k p) := fun a b h _ => ct_pt_ne (by omega)
theorem ct_pt_tc (g : aa_G) (b : Nat → Int32) (n q : Nat) {t i : Nat} {y d k p : Int32} (ht : t < 4) : ct_pt (tc_at g b n q) t i y d k p = tc_at (ct_pt g t i y d k p) b n q := by
  unfold ct_pt
  rw [tc_comm _ _ _ _ (by omega), tc_comm _ _ _ _ (by omega), tc_comm _ _ _ _ (by omega), tc_comm _ _ _ _ (by omega), tc_comm _ _ _ _ (by omega)]
theorem ct_add_0 {g : aa_G} {z : Int32} (h0 : g 34 0 = Int32.ofNat 0) : zz_fin none 28 (0, zz_in [.ref 34, .int z] (zz_nl 28), [], aa_H g) (fun v h => v = none ∧ h = aa_H (zz_w (zz_w (zz_w g (5 * 0 + 46) 0 z) (5 * 0 + 46) 1 0) 34 0 (Int32.ofNat (0 + 1)))) := by
  refine zz_fin.steps (n := 3) (s' := (5, [some (.ref 34), some (.int z)], [.int 4, .int (g 34 0)], aa_H g)) rfl ?_
  rw [h0]
  refine zz_fin.ic rfl (fun cz => absurd cz (by decide)) (fun cz => ?_)
  refine zz_fin.steps (n := 4) (s' := (16, [some (.ref 34), some (.int z)], [.int (g 34 0), .ref 35], aa_H g)) rfl ?_
  rw [h0]
  refine zz_fin.steps (n := 2) (s' := (18, [some (.ref 34), some (.int z)], [.int z, .ref 46], aa_H g)) rfl ?_
  refine zz_fin.call rfl rfl (Nat.le_of_ble_eq_true rfl) (dt_clr_34_0) ?_
  rintro v h ⟨rfl, rfl⟩
  refine zz_fin.steps (n := 5) (s' := (28, [some (.ref 34), some (.int z)], [.int ((g 34 0) + 1), .ref 34], aa_H (zz_w (zz_w g 46 0 z) 46 1 0))) rfl ?_
  rw [h0, aa_succ]
  refine zz_fin.steps (n := 1) (s' := (31, [some (.ref 34), some (.int z)], [], aa_H (zz_w (zz_w (zz_w g 46 0 z) 46 1 0) 34 0 (Int32.ofNat (0 + 1))))) rfl ?_
  exact zz_fin.at (n := 1) rfl ⟨rfl, rfl⟩
theorem ct_add_1 {g : aa_G} {z : Int32} (h0 : g 34 0 = Int32.ofNat 1) : zz_fin none 28 (0, zz_in [.ref 34, .int z] (zz_nl 28), [], aa_H g) (fun v h => v = none ∧ h = aa_H (zz_w (zz_w (zz_w g (5 * 1 + 46) 0 z) (5 * 1 + 46) 1 0) 34 0 (Int32.ofNat (1 + 1)))) := by
  refine zz_fin.steps (n := 3) (s' := (5, [some (.ref 34), some (.int z)], [.int 4, .int (g 34 0)], aa_H g)) rfl ?_
  rw [h0]
  refine zz_fin.ic rfl (fun cz => absurd cz (by decide)) (fun cz => ?_)
  refine zz_fin.steps (n := 4) (s' := (16, [some (.ref 34), some (.int z)], [.int (g 34 0), .ref 35], aa_H g)) rfl ?_
  rw [h0]
  refine zz_fin.steps (n := 2) (s' := (18, [some (.ref 34), some (.int z)], [.int z, .ref 51], aa_H g)) rfl ?_
  refine zz_fin.call rfl rfl (Nat.le_of_ble_eq_true rfl) (dt_clr_34_1) ?_
  rintro v h ⟨rfl, rfl⟩
  refine zz_fin.steps (n := 5) (s' := (28, [some (.ref 34), some (.int z)], [.int ((g 34 0) + 1), .ref 34], aa_H (zz_w (zz_w g 51 0 z) 51 1 0))) rfl ?_
  rw [h0, aa_succ]
  refine zz_fin.steps (n := 1) (s' := (31, [some (.ref 34), some (.int z)], [], aa_H (zz_w (zz_w (zz_w g 51 0 z) 51 1 0) 34 0 (Int32.ofNat (1 + 1))))) rfl ?_
  exact zz_fin.at (n := 1) rfl ⟨rfl, rfl⟩
theorem ct_add_2 {g : aa_G} {z : Int32} (h0 : g 34 0 = Int32.ofNat 2) : zz_fin none 28 (0, zz_in [.ref 34, .int z] (zz_nl 28), [], aa_H g) (fun v h => v = none ∧ h = aa_H (zz_w (zz_w (zz_w g (5 * 2 + 46) 0 z) (5 * 2 + 46) 1 0) 34 0 (Int32.ofNat (2 + 1)))) := by
  refine zz_fin.steps (n := 3) (s' := (5, [some (.ref 34), some (.int z)], [.int 4, .int (g 34 0)], aa_H g)) rfl ?_
  rw [h0]
  refine zz_fin.ic rfl (fun cz => absurd cz (by decide)) (fun cz => ?_)
  refine zz_fin.steps (n := 4) (s' := (16, [some (.ref 34), some (.int z)], [.int (g 34 0), .ref 35], aa_H g)) rfl ?_
  rw [h0]
  refine zz_fin.steps (n := 2) (s' := (18, [some (.ref 34), some (.int z)], [.int z, .ref 56], aa_H g)) rfl ?_
  refine zz_fin.call rfl rfl (Nat.le_of_ble_eq_true rfl) (dt_clr_34_2) ?_
  rintro v h ⟨rfl, rfl⟩
  refine zz_fin.steps (n := 5) (s' := (28, [some (.ref 34), some (.int z)], [.int ((g 34 0) + 1), .ref 34], aa_H (zz_w (zz_w g 56 0 z) 56 1 0))) rfl ?_
  rw [h0, aa_succ]
  refine zz_fin.steps (n := 1) (s' := (31, [some (.ref 34), some (.int z)], [], aa_H (zz_w (zz_w (zz_w g 56 0 z) 56 1 0) 34 0 (Int32.ofNat (2 + 1))))) rfl ?_
  exact zz_fin.at (n := 1) rfl ⟨rfl, rfl⟩
theorem ct_add_3 {g : aa_G} {z : Int32} (h0 : g 34 0 = Int32.ofNat 3) : zz_fin none 28 (0, zz_in [.ref 34, .int z] (zz_nl 28), [], aa_H g) (fun v h => v = none ∧ h = aa_H (zz_w (zz_w (zz_w g (5 * 3 + 46) 0 z) (5 * 3 + 46) 1 0) 34 0 (Int32.ofNat (3 + 1)))) := by
  refine zz_fin.steps (n := 3) (s' := (5, [some (.ref 34), some (.int z)], [.int 4, .int (g 34 0)], aa_H g)) rfl ?_
  rw [h0]
  refine zz_fin.ic rfl (fun cz => absurd cz (by decide)) (fun cz => ?_)
  refine zz_fin.steps (n := 4) (s' := (16, [some (.ref 34), some (.int z)], [.int (g 34 0), .ref 35], aa_H g)) rfl ?_
  rw [h0]
  refine zz_fin.steps (n := 2) (s' := (18, [some (.ref 34), some (.int z)], [.int z, .ref 61], aa_H g)) rfl ?_
  refine zz_fin.call rfl rfl (Nat.le_of_ble_eq_true rfl) (dt_clr_34_3) ?_
  rintro v h ⟨rfl, rfl⟩
  refine zz_fin.steps (n := 5) (s' := (28, [some (.ref 34), some (.int z)], [.int ((g 34 0) + 1), .ref 34], aa_H (zz_w (zz_w g 61 0 z) 61 1 0))) rfl ?_
  rw [h0, aa_succ]
  refine zz_fin.steps (n := 1) (s' := (31, [some (.ref 34), some (.int z)], [], aa_H (zz_w (zz_w (zz_w g 61 0 z) 61 1 0) 34 0 (Int32.ofNat (3 + 1))))) rfl ?_
  exact zz_fin.at (n := 1) rfl ⟨rfl, rfl⟩
theorem ct_add {g : aa_G} {z : Int32} {t : Nat} (ht : t < 4) (h0 : g 34 0 = Int32.ofNat t) : zz_fin none 28 (0, zz_in [.ref 34, .int z] (zz_nl 28), [], aa_H g) (fun v h => v = none ∧ h = aa_H (zz_w (zz_w (zz_w g (5 * t + 46) 0 z) (5 * t + 46) 1 0) 34 0 (Int32.ofNat (t + 1)))) := by
  rcases dt_four ht with rfl | rfl | rfl | rfl
  · exact ct_add_0 h0
  · exact ct_add_1 h0
  · exact ct_add_2 h0
  · exact ct_add_3 h0
theorem ct_last_0 {g : aa_G} (h0 : g 34 0 = Int32.ofNat 0) : zz_fin none 30 (0, zz_in [.ref 34] (zz_nl 30), [], aa_H g) (fun v h => v = some (.null) ∧ h = aa_H g) := by
  have hat : zz_fin none 31 (0, zz_in [.ref 34, .int (-1)] (zz_nl 31), [], aa_H g) (fun v h => v = some (.null) ∧ h = aa_H g) := by
    refine zz_fin.steps (n := 6) (s' := (8, [some (.ref 34), some (.int (-1))], [.int ((g 34 0) - 1), .int 0, .int (-1)], aa_H g)) rfl ?_
    rw [h0]
    refine zz_fin.call rfl rfl (Nat.le_of_ble_eq_true rfl) (zz_within0 (.inl rfl) (by decide)) ?_
    rintro v h ⟨rfl, rfl⟩
    refine zz_fin.if rfl (fun cz => ?_) (fun cz => zc_no0 cz)
    refine zz_fin.steps (n := 1) (s' := (24, [some (.ref 34), some (.int (-1))], [.null], aa_H g)) rfl ?_
    exact zz_fin.at (n := 1) rfl ⟨rfl, rfl⟩
  refine zz_fin.steps (n := 5) (s' := (7, [some (.ref 34)], [.int ((g 34 0) - 1), .ref 34], aa_H g)) rfl ?_
  rw [h0]
  refine zz_fin.call rfl rfl (Nat.le_of_ble_eq_true rfl) hat ?_
  rintro v h ⟨rfl, rfl⟩
  exact zz_fin.at (n := 1) rfl ⟨rfl, rfl⟩
theorem ct_last_1 {g : aa_G} (h0 : g 34 0 = Int32.ofNat 1) : zz_fin none 30 (0, zz_in [.ref 34] (zz_nl 30), [], aa_H g) (fun v h => v = some (.ref (5 * (1 - 1) + 46)) ∧ h = aa_H g) := by
  have hat : zz_fin none 31 (0, zz_in [.ref 34, .int (0)] (zz_nl 31), [], aa_H g) (fun v h => v = some (.ref (5 * (1 - 1) + 46)) ∧ h = aa_H g) := by
    refine zz_fin.steps (n := 6) (s' := (8, [some (.ref 34), some (.int 0)], [.int ((g 34 0) - 1), .int 0, .int 0], aa_H g)) rfl ?_
    rw [h0]
    refine zz_fin.call rfl rfl (Nat.le_of_ble_eq_true rfl) (zz_within1 (.inl rfl) (by decide)) ?_
    rintro v h ⟨rfl, rfl⟩
    refine zz_fin.if rfl (fun cz => zc_no1 cz) (fun cz => ?_)
    refine zz_fin.steps (n := 5) (s' := (24, [some (.ref 34), some (.int 0)], [.ref 46], aa_H g)) rfl ?_
    exact zz_fin.at (n := 1) rfl ⟨rfl, rfl⟩
  refine zz_fin.steps (n := 5) (s' := (7, [some (.ref 34)], [.int ((g 34 0) - 1), .ref 34], aa_H g)) rfl ?_
  rw [h0]
  refine zz_fin.call rfl rfl (Nat.le_of_ble_eq_true rfl) hat ?_
  rintro v h ⟨rfl, rfl⟩
  exact zz_fin.at (n := 1) rfl ⟨rfl, rfl⟩
theorem ct_last_2 {g : aa_G} (h0 : g 34 0 = Int32.ofNat 2) : zz_fin none 30 (0, zz_in [.ref 34] (zz_nl 30), [], aa_H g) (fun v h => v = some (.ref (5 * (2 - 1) + 46)) ∧ h = aa_H g) := by
  have hat : zz_fin none 31 (0, zz_in [.ref 34, .int (1)] (zz_nl 31), [], aa_H g) (fun v h => v = some (.ref (5 * (2 - 1) + 46)) ∧ h = aa_H g) := by
    refine zz_fin.steps (n := 6) (s' := (8, [some (.ref 34), some (.int 1)], [.int ((g 34 0) - 1), .int 0, .int 1], aa_H g)) rfl ?_
    rw [h0]
    refine zz_fin.call rfl rfl (Nat.le_of_ble_eq_true rfl) (zz_within1 (.inl rfl) (by decide)) ?_
    rintro v h ⟨rfl, rfl⟩
    refine zz_fin.if rfl (fun cz => zc_no1 cz) (fun cz => ?_)
    refine zz_fin.steps (n := 5) (s' := (24, [some (.ref 34), some (.int 1)], [.ref 51], aa_H g)) rfl ?_
    exact zz_fin.at (n := 1) rfl ⟨rfl, rfl⟩
  refine zz_fin.steps (n := 5) (s' := (7, [some (.ref 34)], [.int ((g 34 0) - 1), .ref 34], aa_H g)) rfl ?_
  rw [h0]
  refine zz_fin.call rfl rfl (Nat.le_of_ble_eq_true rfl) hat ?_
  rintro v h ⟨rfl, rfl⟩
  exact zz_fin.at (n := 1) rfl ⟨rfl, rfl⟩
theorem ct_last_3 {g : aa_G} (h0 : g 34 0 = Int32.ofNat 3) : zz_fin none 30 (0, zz_in [.ref 34] (zz_nl 30), [], aa_H g) (fun v h => v = some (.ref (5 * (3 - 1) + 46)) ∧ h = aa_H g) := by
  have hat : zz_fin none 31 (0, zz_in [.ref 34, .int (2)] (zz_nl 31), [], aa_H g) (fun v h => v = some (.ref (5 * (3 - 1) + 46)) ∧ h = aa_H g) := by
    refine zz_fin.steps (n := 6) (s' := (8, [some (.ref 34), some (.int 2)], [.int ((g 34 0) - 1), .int 0, .int 2], aa_H g)) rfl ?_
    rw [h0]
    refine zz_fin.call rfl rfl (Nat.le_of_ble_eq_true rfl) (zz_within1 (.inl rfl) (by decide)) ?_
    rintro v h ⟨rfl, rfl⟩
    refine zz_fin.if rfl (fun cz => zc_no1 cz) (fun cz => ?_)
    refine zz_fin.steps (n := 5) (s' := (24, [some (.ref 34), some (.int 2)], [.ref 56], aa_H g)) rfl ?_
    exact zz_fin.at (n := 1) rfl ⟨rfl, rfl⟩
  refine zz_fin.steps (n := 5) (s' := (7, [some (.ref 34)], [.int ((g 34 0) - 1), .ref 34], aa_H g)) rfl ?_
  rw [h0]
  refine zz_fin.call rfl rfl (Nat.le_of_ble_eq_true rfl) hat ?_
  rintro v h ⟨rfl, rfl⟩
  exact zz_fin.at (n := 1) rfl ⟨rfl, rfl⟩
theorem ct_last_4 {g : aa_G} (h0 : g 34 0 = Int32.ofNat 4) : zz_fin none 30 (0, zz_in [.ref 34] (zz_nl 30), [], aa_H g) (fun v h => v = some (.ref (5 * (4 - 1) + 46)) ∧ h = aa_H g) := by
  have hat : zz_fin none 31 (0, zz_in [.ref 34, .int (3)] (zz_nl 31), [], aa_H g) (fun v h => v = some (.ref (5 * (4 - 1) + 46)) ∧ h = aa_H g) := by
    refine zz_fin.steps (n := 6) (s' := (8, [some (.ref 34), some (.int 3)], [.int ((g 34 0) - 1), .int 0, .int 3], aa_H g)) rfl ?_
    rw [h0]
    refine zz_fin.call rfl rfl (Nat.le_of_ble_eq_true rfl) (zz_within1 (.inl rfl) (by decide)) ?_
    rintro v h ⟨rfl, rfl⟩
    refine zz_fin.if rfl (fun cz => zc_no1 cz) (fun cz => ?_)
    refine zz_fin.steps (n := 5) (s' := (24, [some (.ref 34), some (.int 3)], [.ref 61], aa_H g)) rfl ?_
    exact zz_fin.at (n := 1) rfl ⟨rfl, rfl⟩
  refine zz_fin.steps (n := 5) (s' := (7, [some (.ref 34)], [.int ((g 34 0) - 1), .ref 34], aa_H g)) rfl ?_
  rw [h0]
  refine zz_fin.call rfl rfl (Nat.le_of_ble_eq_true rfl) hat ?_
  rintro v h ⟨rfl, rfl⟩
  exact zz_fin.at (n := 1) rfl ⟨rfl, rfl⟩
theorem ct_last {g : aa_G} {t : Nat} (ht : t ≤ 4) (h0 : g 34 0 = Int32.ofNat t) : zz_fin none 30 (0, zz_in [.ref 34] (zz_nl 30), [], aa_H g) (fun v h => ((t = 0 ∧ v = some .null) ∨ (t ≠ 0 ∧ v = some (.ref (5 * (t - 1) + 46)))) ∧ h = aa_H g) := by
  have h5 : t = 0 ∨ t = 1 ∨ t = 2 ∨ t = 3 ∨ t = 4 := by omega
  rcases h5 with rfl | rfl | rfl | rfl | rfl
  · refine (ct_last_0 h0).mono ?_
    rintro v h ⟨rfl, rfl⟩
    exact ⟨.inl ⟨rfl, rfl⟩, rfl⟩
  · refine (ct_last_1 h0).mono ?_
    rintro v h ⟨rfl, rfl⟩
    exact ⟨.inr ⟨by decide, rfl⟩, rfl⟩
  · refine (ct_last_2 h0).mono ?_
    rintro v h ⟨rfl, rfl⟩
    exact ⟨.inr ⟨by decide, rfl⟩, rfl⟩
  · refine (ct_last_3 h0).mono ?_
    rintro v h ⟨rfl, rfl⟩
    exact ⟨.inr ⟨by decide, rfl⟩, rfl⟩
  · refine (ct_last_4 h0).mono ?_
    rintro v h ⟨rfl, rfl⟩
    exact ⟨.inr ⟨by decide, rfl⟩, rfl⟩
end
section
/-! A TEXT: the class reads an item -/
theorem ct_rtown {g : aa_G} {b : Nat → Int32} {n p : Nat} {A : sp_A} (h : tc_ok g b n) (hA : cvs g 34 A) (hp : p < n) : zz_fin none 24 (0, zz_in [.ref 454, .ref 34] (zz_nl 24), [], aa_H (tc_at g b n p)) (ct_res g b n (sp_rtown b n p A)) := by
  have h0 : tc_at g b n p 34 0 = Int32.ofNat A.1.1 := (cvs_at hA).1
  have h4 := hA.2.1
  unfold sp_rtown
  refine zz_fin.steps (n := 3) (s' := (5, [some (.ref 454), some (.ref 34)], [.int 4, .int ((tc_at g b n p) 34 0)], aa_H (tc_at g b n p))) rfl ?_
  rw [h0]
  refine zz_fin.ic rfl (fun c1 => ?_) (fun c1 => ?_)
  · have c1 : (Int32.ofNat A.1.1).toInt < (4 : Int32).toInt := aa_lt32.mp (of_decide_eq_true c1)
    rw [zz_ofN (by omega), show (4 : Int32).toInt = 4 from rfl] at c1
    have c1 : A.1.1 < 4 := by omega
    rw [if_neg (by omega)]
    refine zz_fin.steps (n := 1) (s' := (14, [some (.ref 454), some (.ref 34)], [.ref 454], aa_H (tc_at g b n p))) rfl ?_
    refine zz_fin.call rfl rfl (Nat.le_of_ble_eq_true rfl) (tc_step h hp) ?_
    rintro v h ⟨rfl, rfl⟩
    refine zz_fin.steps (n := 4) (s' := (23, [some (.ref 454), some (.ref 34)], [.int 43200, .int (-43200), .int 1, .ref 454], aa_H (tc_at g b n (p + 1)))) rfl ?_
    refine zz_fin.call rfl rfl (Nat.le_of_ble_eq_true rfl) (tc_num (neg := true) h (p := p + 1) hp (-43200) 43200) ?_
    rintro v h (⟨f, hf, rfl, g', rfl, hg⟩ | ⟨q, z, hq, rfl, rfl⟩)
    · rw [hf]
      refine zz_fin.if rfl (fun cz => absurd cz (by decide)) (fun cz => ?_)
      refine zz_fin.steps (n := 1) (s' := (30, [some (.ref 454), some (.ref 34)], [.int 0], aa_H (g'))) rfl ?_
      exact zz_fin.at (n := 1) rfl (.inl ⟨f, rfl, rfl, g', rfl, ct_fr.rf.bad hg⟩)
    · rw [hq]
      have hqn := sp_num_n hq hp
      refine zz_fin.if rfl (fun cz => ?_) (fun cz => absurd rfl cz)
      refine zz_fin.steps (n := 3) (s' := (36, [some (.ref 454), some (.ref 34)], [.int z, .ref 34], aa_H (tc_at (zz_w g 454 3 z) b n q))) rfl ?_
      refine zz_fin.call rfl rfl (Nat.le_of_ble_eq_true rfl) (ct_add (t := A.1.1) c1 (cvs_at (cvs_num hA)).1) ?_
      rintro v h ⟨rfl, rfl⟩
      refine zz_fin.at (n := 2) rfl (.inr ⟨q, _, rfl, hqn.1, rfl, zz_w (zz_w (zz_w (zz_w g 454 3 z) (5 * A.1.1 + 46) 0 z) (5 * A.1.1 + 46) 1 0) 34 0 (Int32.ofNat (A.1.1 + 1)), ?_, (ct_fr.num z).tr fun k j e1 e2 => ?_, cvs_town (cvs_num hA) c1⟩)
      · rw [tc_comm _ _ _ _ (by omega), tc_comm _ _ _ _ (by omega), tc_comm _ _ _ _ (by omega)]
      · rw [aa_w_ne _ _ (by omega), aa_w_ne _ _ (by omega), aa_w_ne _ _ (by omega)]
  · have c1 : A.1.1 = 4 := Decidable.byContradiction fun z => c1 (decide_eq_true (aa_lt32.mpr (by rw [zz_ofN (by omega), show (4 : Int32).toInt = 4 from rfl]; omega)))
    rw [if_pos c1]
    refine zz_fin.steps (n := 1) (s' := (9, [some (.ref 454), some (.ref 34)], [.ref 454], aa_H (tc_at g b n p))) rfl ?_
    refine zz_fin.call rfl rfl (Nat.le_of_ble_eq_true rfl) (tc_fail) ?_
    rintro v h ⟨rfl, g', rfl, hg⟩
    exact zz_fin.at (n := 1) rfl (.inl ⟨p, rfl, rfl, g', rfl, ct_fr.rf.bad hg⟩)
theorem ct_kind {g : aa_G} {b : Nat → Int32} {n p : Nat} {A : sp_A} {y : Int32} (h : tc_ok g b n) (hA : cvs g 34 A) (hp : p ≤ n) {t : Nat} (ht0 : A.1.1 = t + 1) (hc : A.2.1 t < 12) : zz_fin none 37 (0, zz_in [.ref 454, .ref (5 * t + 46), .int y] (zz_nl 37), [], aa_H (tc_at g b n p)) (ct_res g b n (sp_kind b n p y A)) := by
  have ht : t < 4 := by have := hA.2.1; omega
  have ht1 : A.1.1 - 1 = t := by omega
  unfold sp_kind
  refine zz_fin.steps (n := 4) (s' := (4, [some (.ref 454), some (.ref (5 * t + 46)), some (.int y)], [.int 1, .int 0, .int 1, .ref 454], aa_H (tc_at g b n p))) rfl ?_
  refine zz_fin.call rfl rfl (Nat.le_of_ble_eq_true rfl) (tc_num (neg := true) h hp 0 1) ?_
  rintro v h (⟨f, hf, rfl, g', rfl, hg⟩ | ⟨q, z, hq, rfl, rfl⟩)
  · rw [hf]
    refine zz_fin.if rfl (fun cz => absurd cz (by decide)) (fun cz => ?_)
    refine zz_fin.steps (n := 1) (s' := (11, [some (.ref 454), some (.ref (5 * t + 46)), some (.int y)], [.int 0], aa_H (g'))) rfl ?_
    exact zz_fin.at (n := 1) rfl (.inl ⟨f, rfl, rfl, g', rfl, ct_fr.rf.bad hg⟩)
  · rw [hq]
    have hqn := sp_num_n hq hp
    refine zz_fin.if rfl (fun cz => ?_) (fun cz => absurd rfl cz)
    refine zz_fin.steps (n := 6) (s' := (20, [some (.ref 454), some (.ref (5 * t + 46)), some (.int y)], [.int z, .int (-1), .int (-1), .int y, .ref (5 * t + 46)], aa_H (tc_at (zz_w g 454 3 z) b n q))) rfl ?_
    refine zz_fin.callv (k := 5 * t + 45) (as := [.int y, .int (-1), .int (-1), .int z]) rfl rfl rfl (dt_obj_34 ht) (Nat.le_of_ble_eq_true rfl) (Nat.le_of_ble_eq_true rfl) (dt_app_34 (i := A.2.1 t) ht hc ((cvs_at (cvs_num hA)).2.2 t (by omega)).2.1) ?_
    rintro v h ⟨rfl, rfl⟩
    refine zz_fin.at (n := 2) rfl (.inr ⟨_, _, rfl, hqn.1, rfl, ct_pt (zz_w g 454 3 z) t (A.2.1 t) y (-1) (-1) z, ?_, (ct_fr.num z).tr (ct_pt_fr ht), ?_⟩)
    · exact congrArg aa_H (ct_pt_tc _ _ _ _ ht)
    · have k := cvs_point (g := zz_w g 454 3 z) (y := y) (d := (-1)) (k := (-1)) (p := z) (cvs_num hA) (by omega) (by rw [ht1]; exact hc)
      rwa [ht1] at k
theorem ct_hours {g : aa_G} {b : Nat → Int32} {n p : Nat} {A : sp_A} {y : Int32} (h : tc_ok g b n) (hA : cvs g 34 A) (hp : p ≤ n) {t : Nat} (ht0 : A.1.1 = t + 1) (hc : A.2.1 t < 12) : zz_fin none 34 (0, zz_in [.ref 454, .ref (5 * t + 46), .int y] (zz_nl 34), [], aa_H (tc_at g b n p)) (ct_res g b n (sp_hours b n p y A)) := by
  have ht : t < 4 := by have := hA.2.1; omega
  have ht1 : A.1.1 - 1 = t := by omega
  unfold sp_hours
  refine zz_fin.steps (n := 4) (s' := (5, [some (.ref 454), some (.ref (5 * t + 46)), some (.int y), none], [.int 86399, .int 0, .int 1, .ref 454], aa_H (tc_at g b n p))) rfl ?_
  refine zz_fin.call rfl rfl (Nat.le_of_ble_eq_true rfl) (tc_num (neg := true) h hp 0 86399) ?_
  rintro v h (⟨f, hf, rfl, g', rfl, hg⟩ | ⟨q, z, hq, rfl, rfl⟩)
  · rw [hf]
    refine zz_fin.if rfl (fun cz => absurd cz (by decide)) (fun cz => ?_)
    refine zz_fin.steps (n := 1) (s' := (12, [some (.ref 454), some (.ref (5 * t + 46)), some (.int y), none], [.int 0], aa_H (g'))) rfl ?_
    exact zz_fin.at (n := 1) rfl (.inl ⟨f, rfl, rfl, g', rfl, ct_fr.rf.bad hg⟩)
  · rw [hq]
    have hqn := sp_num_n hq hp
    refine zz_fin.if rfl (fun cz => ?_) (fun cz => absurd rfl cz)
    unfold sp_then sp_pass
    dsimp only
    refine zz_fin.steps (n := 5) (s' := (21, [some (.ref 454), some (.ref (5 * t + 46)), some (.int y), some (.int z)], [.int 44, .ref 454], aa_H (tc_at (zz_w g 454 3 z) b n q))) rfl ?_
    refine zz_fin.call rfl rfl (Nat.le_of_ble_eq_true rfl) (tc_pass (tc_ok3 h z) (by decide)) ?_
    rintro v h (⟨rfl, hs, hqn2, rfl⟩ | ⟨rfl, hs, g', rfl, hg⟩)
    · rw [if_pos hs]
      refine zz_fin.if rfl (fun cz => zc_no1 cz) (fun cz => ?_)
      refine zz_fin.steps (n := 6) (s' := (34, [some (.ref 454), some (.ref (5 * t + 46)), some (.int y), some (.int z)], [.int 86399, .int (z + 1), .int 1, .ref 454], aa_H (tc_at (zz_w g 454 3 z) b n (q + 1)))) rfl ?_
      refine zz_fin.call rfl rfl (Nat.le_of_ble_eq_true rfl) (tc_num (neg := true) (tc_ok3 h z) (p := q + 1) hqn2 (z + 1) 86399) ?_
      rintro v h (⟨f, hf, rfl, g', rfl, hg⟩ | ⟨q2, z2, hq2, rfl, rfl⟩)
      · rw [hf]
        refine zz_fin.if rfl (fun cz => absurd cz (by decide)) (fun cz => ?_)
        refine zz_fin.steps (n := 1) (s' := (41, [some (.ref 454), some (.ref (5 * t + 46)), some (.int y), some (.int z)], [.int 0], aa_H (g'))) rfl ?_
        exact zz_fin.at (n := 1) rfl (.inl ⟨f, rfl, rfl, g', rfl, (ct_fr.num z).bad hg⟩)
      · rw [hq2]
        have hqn := sp_num_n hq2 hqn2
        refine zz_fin.if rfl (fun cz => ?_) (fun cz => absurd rfl cz)
        refine zz_fin.steps (n := 6) (s' := (50, [some (.ref 454), some (.ref (5 * t + 46)), some (.int y), some (.int z)], [.int (-1), .int z2, .int z, .int y, .ref (5 * t + 46)], aa_H (tc_at (zz_w (zz_w g 454 3 z) 454 3 z2) b n q2))) rfl ?_
        refine zz_fin.callv (k := 5 * t + 45) (as := [.int y, .int z, .int z2, .int (-1)]) rfl rfl rfl (dt_obj_34 ht) (Nat.le_of_ble_eq_true rfl) (Nat.le_of_ble_eq_true rfl) (dt_app_34 (i := A.2.1 t) ht hc ((cvs_at (cvs_num (cvs_num hA))).2.2 t (by omega)).2.1) ?_
        rintro v h ⟨rfl, rfl⟩
        refine zz_fin.at (n := 2) rfl (.inr ⟨_, _, rfl, hqn.1, rfl, ct_pt (zz_w (zz_w g 454 3 z) 454 3 z2) t (A.2.1 t) y z z2 (-1), ?_, ((ct_fr.num z).tr (ct_fr.num z2)).tr (ct_pt_fr ht), ?_⟩)
        · exact congrArg aa_H (ct_pt_tc _ _ _ _ ht)
        · have k := cvs_point (g := zz_w (zz_w g 454 3 z) 454 3 z2) (y := y) (d := z) (k := z2) (p := (-1)) (cvs_num (cvs_num hA)) (by omega) (by rw [ht1]; exact hc)
          rwa [ht1] at k
    · rw [if_neg hs]
      refine zz_fin.if rfl (fun cz => ?_) (fun cz => zc_no0 cz)
      refine zz_fin.steps (n := 1) (s' := (41, [some (.ref 454), some (.ref (5 * t + 46)), some (.int y), some (.int z)], [.int 0], aa_H (g'))) rfl ?_
      exact zz_fin.at (n := 1) rfl (.inl ⟨q, rfl, rfl, g', rfl, (ct_fr.num z).bad hg⟩)
end
section
/-! A TEXT: the class reads all items -/
theorem ct_res_fr {g g1 : aa_G} {b : Nat → Int32} {n : Nat} {r : Nat ⊕ (Nat × sp_A)} {v : Option Value} {h : zz_H} (hf : ct_fr g g1) (k : ct_res g1 b n r v h) : ct_res g b n r v h := by
  rcases k with ⟨f, k1, k2, g', k3, k4⟩ | ⟨q, A', k1, k2, k3, g', k4, k5, k6⟩
  · exact .inl ⟨f, k1, k2, g', k3, hf.bad2 k4⟩
  · exact .inr ⟨q, A', k1, k2, k3, g', k4, hf.tr k5, k6⟩
theorem hb_lt {b : Nat → Int32} {n p : Nat} {c : Int32} (h : sp_hb b n p = c) (hc : c ≠ -1) : p < n := Decidable.byContradiction fun z => hc (by rw [← h]; exact if_neg z)
theorem ct_item {g : aa_G} {b : Nat → Int32} {n p : Nat} {A : sp_A} (h : tc_ok g b n) (hA : cvs g 34 A) (hp : p ≤ n) : zz_fin none 23 (0, zz_in [.ref 454, .ref 34] (zz_nl 23), [], aa_H (tc_at g b n p)) (ct_res g b n (sp_item b n p A)) := by
  have bad : sp_item b n p A = .inl p → ∀ v h', (v = some (Value.int 0) ∧ ∃ g', h' = aa_H g' ∧ tc_bad g p g') → ct_res g b n (sp_item b n p A) v h' := fun e v h' ⟨e1, g', e2, e3⟩ => .inl ⟨p, e, e1, g', e2, ct_fr.rf.bad e3⟩
  refine zz_fin.steps (n := 5) (s' := (8, [some (.ref 454), some (.ref 34), some (.int (sp_hb b n p)), none, none, none], [.int 116, .int (sp_hb b n p)], aa_H (tc_at g b n p))) rfl ?_
  refine zz_fin.ic rfl (fun c1 => ?_) (fun c1 => ?_)
  · have c1 : sp_hb b n p ≠ 116 := of_decide_eq_true c1
    refine zz_fin.steps (n := 1) (s' := (18, [some (.ref 454), some (.ref 34), some (.int (sp_hb b n p)), none, none, none], [.ref 34], aa_H (tc_at g b n p))) rfl ?_
    refine zz_fin.call rfl rfl (Nat.le_of_ble_eq_true rfl) (ct_last (t := A.1.1) hA.2.1 (cvs_at hA).1) ?_
    rintro v h ⟨⟨e0, rfl⟩ | ⟨e0, rfl⟩, rfl⟩
    · have e : sp_item b n p A = .inl p := by rw [show sp_item b n p A = _ from if_neg c1, if_neg fun z => z.2.1 e0]
      refine zz_fin.steps (n := 3) (s' := (25, [some (.ref 454), some (.ref 34), some (.int (sp_hb b n p)), some (.null), none, none], [.int 112, .int (sp_hb b n p)], aa_H (tc_at g b n p))) rfl ?_
      refine zz_fin.ic rfl (fun c2 => ?_) (fun c2 => ?_)
      · refine zz_fin.steps (n := 4) (s' := (43, [some (.ref 454), some (.ref 34), some (.int (sp_hb b n p)), some (.null), some (.int 1), none], [.int 1], aa_H (tc_at g b n p))) rfl ?_
        refine zz_fin.if rfl (fun cz => zc_no1 cz) (fun cz => ?_)
        refine zz_fin.steps (n := 3) (s' := (60, [some (.ref 454), some (.ref 34), some (.int (sp_hb b n p)), some (.null), some (.int 1), none], [.ref 454], aa_H (tc_at g b n p))) rfl ?_
        refine zz_fin.call rfl rfl (Nat.le_of_ble_eq_true rfl) (tc_fail) ?_
        rintro v h' ⟨rfl, g', rfl, hg⟩
        exact zz_fin.at (n := 1) rfl (bad e _ _ ⟨rfl, g', rfl, hg⟩)
      · refine zz_fin.steps (n := 2) (s' := (31, [some (.ref 454), some (.ref 34), some (.int (sp_hb b n p)), some (.null), none, none], [.int 120, .int (sp_hb b n p)], aa_H (tc_at g b n p))) rfl ?_
        refine zz_fin.ic rfl (fun c3 => ?_) (fun c3 => ?_)
        · refine zz_fin.steps (n := 3) (s' := (43, [some (.ref 454), some (.ref 34), some (.int (sp_hb b n p)), some (.null), some (.int 0), none], [.int 0], aa_H (tc_at g b n p))) rfl ?_
          refine zz_fin.if rfl (fun cz => ?_) (fun cz => zc_no0 cz)
          refine zz_fin.steps (n := 1) (s' := (60, [some (.ref 454), some (.ref 34), some (.int (sp_hb b n p)), some (.null), some (.int 0), none], [.ref 454], aa_H (tc_at g b n p))) rfl ?_
          refine zz_fin.call rfl rfl (Nat.le_of_ble_eq_true rfl) (tc_fail) ?_
          rintro v h' ⟨rfl, g', rfl, hg⟩
          exact zz_fin.at (n := 1) rfl (bad e _ _ ⟨rfl, g', rfl, hg⟩)
        · refine zz_fin.steps (n := 4) (s' := (43, [some (.ref 454), some (.ref 34), some (.int (sp_hb b n p)), some (.null), some (.int 1), none], [.int 1], aa_H (tc_at g b n p))) rfl ?_
          refine zz_fin.if rfl (fun cz => zc_no1 cz) (fun cz => ?_)
          refine zz_fin.steps (n := 3) (s' := (60, [some (.ref 454), some (.ref 34), some (.int (sp_hb b n p)), some (.null), some (.int 1), none], [.ref 454], aa_H (tc_at g b n p))) rfl ?_
          refine zz_fin.call rfl rfl (Nat.le_of_ble_eq_true rfl) (tc_fail) ?_
          rintro v h' ⟨rfl, g', rfl, hg⟩
          exact zz_fin.at (n := 1) rfl (bad e _ _ ⟨rfl, g', rfl, hg⟩)
    · have ht : A.1.1 - 1 < 4 := by have := hA.2.1; omega
      have hT := (cvs_at (b := b) (n := n) (p := p) hA).2.2 (A.1.1 - 1) (by omega)
      refine zz_fin.steps (n := 3) (s' := (25, [some (.ref 454), some (.ref 34), some (.int (sp_hb b n p)), some (.ref (5 * (A.1.1 - 1) + 46)), none, none], [.int 112, .int (sp_hb b n p)], aa_H (tc_at g b n p))) rfl ?_
      refine zz_fin.ic rfl (fun c2 => ?_) (fun c2 => ?_)
      · have c2 : sp_hb b n p = 112 := of_decide_eq_true c2
        have hlet : sp_hb b n p = 112 ∨ sp_hb b n p = 120 := .inl c2
        have hp1 : p < n := hb_lt c2 (by decide)
        refine zz_fin.steps (n := 4) (s' := (43, [some (.ref 454), some (.ref 34), some (.int (sp_hb b n p)), some (.ref (5 * (A.1.1 - 1) + 46)), some (.int 1), none], [.int 1], aa_H (tc_at g b n p))) rfl ?_
        refine zz_fin.if rfl (fun cz => zc_no1 cz) (fun cz => ?_)
        refine zz_fin.steps (n := 3) (s' := (51, [some (.ref 454), some (.ref 34), some (.int (sp_hb b n p)), some (.ref (5 * (A.1.1 - 1) + 46)), some (.int 1), none], [.ref (5 * (A.1.1 - 1) + 46)], aa_H (tc_at g b n p))) rfl ?_
        refine zz_fin.gt1_34 ht rfl ?_
        rw [hT.2.1]
        refine zz_fin.steps (n := 1) (s' := (56, [some (.ref 454), some (.ref 34), some (.int (sp_hb b n p)), some (.ref (5 * (A.1.1 - 1) + 46)), some (.int 1), none], [.int 12, .int (Int32.ofNat (A.2.1 (A.1.1 - 1)))], aa_H (tc_at g b n p))) rfl ?_
        refine zz_fin.ic rfl (fun c4 => ?_) (fun c4 => ?_)
        · have c4 : (Int32.ofNat (A.2.1 (A.1.1 - 1))).toInt < (12 : Int32).toInt := aa_lt32.mp (of_decide_eq_true c4)
          have hc12 := hT.2.2.1
          rw [zz_ofN (by omega), show (12 : Int32).toInt = 12 from rfl] at c4
          have c4 : A.2.1 (A.1.1 - 1) < 12 := by omega
          rw [show sp_item b n p A = _ from if_neg c1, if_pos ⟨hlet, e0, by omega⟩]
          refine zz_fin.steps (n := 1) (s' := (65, [some (.ref 454), some (.ref 34), some (.int (sp_hb b n p)), some (.ref (5 * (A.1.1 - 1) + 46)), some (.int 1), none], [.ref 454], aa_H (tc_at g b n p))) rfl ?_
          refine zz_fin.call rfl rfl (Nat.le_of_ble_eq_true rfl) (tc_step h hp1) ?_
          rintro v h ⟨rfl, rfl⟩
          have hT2 := (cvs_at (b := b) (n := n) (p := p + 1) hA).2.2 (A.1.1 - 1) (by omega)
          refine zz_fin.steps (n := 3) (s' := (71, [some (.ref 454), some (.ref 34), some (.int (sp_hb b n p)), some (.ref (5 * (A.1.1 - 1) + 46)), some (.int 1), none], [.ref (5 * (A.1.1 - 1) + 46), .int 1, .ref 454], aa_H (tc_at g b n (p + 1)))) rfl ?_
          refine zz_fin.callv (k := 5 * (A.1.1 - 1) + 45) (as := []) rfl rfl rfl (dt_obj_34 ht) (Nat.le_of_ble_eq_true rfl) (Nat.le_of_ble_eq_true rfl) (dt_lat_34 ht hT2.2.2.1 hT2.2.1) ?_
          rintro v h ⟨rfl, rfl⟩
          have hlow : (if A.2.1 (A.1.1 - 1) = 0 then -1 else tc_at g b n (p + 1) (5 * (A.1.1 - 1) + 47) (A.2.1 (A.1.1 - 1) - 1)) + 1 = sp_low A := by
            unfold sp_low
            by_cases z : A.2.1 (A.1.1 - 1) = 0
            · rw [if_pos z, if_pos z]
            · rw [if_neg z, if_neg z]
              exact congrArg (· + 1) (hT2.2.2.2 (A.2.1 (A.1.1 - 1) - 1) (by omega)).1
          generalize (if A.2.1 (A.1.1 - 1) = 0 then -1 else tc_at g b n (p + 1) (5 * (A.1.1 - 1) + 47) (A.2.1 (A.1.1 - 1) - 1)) = LOW at hlow ⊢
          rw [← hlow]
          refine zz_fin.steps (n := 3) (s' := (79, [some (.ref 454), some (.ref 34), some (.int (sp_hb b n p)), some (.ref (5 * (A.1.1 - 1) + 46)), some (.int 1), none], [.int 359, .int (LOW + 1), .int 1, .ref 454], aa_H (tc_at g b n (p + 1)))) rfl ?_
          refine zz_fin.call rfl rfl (Nat.le_of_ble_eq_true rfl) (tc_num (neg := true) h (p := p + 1) hp1 (LOW + 1) 359) ?_
          rintro v h (⟨f, hf, rfl, g', rfl, hg⟩ | ⟨q, z, hq, rfl, rfl⟩)
          · rw [hf]
            refine zz_fin.if rfl (fun cz => absurd cz (by decide)) (fun cz => ?_)
            refine zz_fin.steps (n := 1) (s' := (86, [some (.ref 454), some (.ref 34), some (.int (sp_hb b n p)), some (.ref (5 * (A.1.1 - 1) + 46)), some (.int 1), none], [.int 0], aa_H (g'))) rfl ?_
            exact zz_fin.at (n := 1) rfl (.inl ⟨f, rfl, rfl, g', rfl, ct_fr.rf.bad hg⟩)
          · rw [hq]
            have hqn := sp_num_n hq hp1
            refine zz_fin.if rfl (fun cz => ?_) (fun cz => absurd rfl cz)
            unfold sp_then sp_pass
            dsimp only
            refine zz_fin.steps (n := 5) (s' := (96, [some (.ref 454), some (.ref 34), some (.int (sp_hb b n p)), some (.ref (5 * (A.1.1 - 1) + 46)), some (.int 1), some (.int z)], [.int 44, .ref 454], aa_H (tc_at (zz_w g 454 3 z) b n q))) rfl ?_
            refine zz_fin.call rfl rfl (Nat.le_of_ble_eq_true rfl) (tc_pass (tc_ok3 h z) (by decide)) ?_
            rintro v h (⟨rfl, hs, hqn2, rfl⟩ | ⟨rfl, hs, g', rfl, hg⟩)
            · rw [if_pos hs]
              refine zz_fin.if rfl (fun cz => zc_no1 cz) (fun cz => ?_)
              refine zz_fin.steps (n := 2) (s' := (105, [some (.ref 454), some (.ref 34), some (.int (sp_hb b n p)), some (.ref (5 * (A.1.1 - 1) + 46)), some (.int 1), some (.int z)], [.int 112, .int (sp_hb b n p)], aa_H (tc_at (zz_w g 454 3 z) b n (q + 1)))) rfl ?_
              rw [if_pos c2, c2]
              refine zz_fin.ic rfl (fun cz => absurd cz (by decide)) (fun cz => ?_)
              refine zz_fin.steps (n := 3) (s' := (112, [some (.ref 454), some (.ref 34), some (.int 112), some (.ref (5 * (A.1.1 - 1) + 46)), some (.int 1), some (.int z)], [.int z, .ref (5 * (A.1.1 - 1) + 46), .ref 454], aa_H (tc_at (zz_w g 454 3 z) b n (q + 1)))) rfl ?_
              refine zz_fin.call rfl rfl (Nat.le_of_ble_eq_true rfl) (ct_hours (tc_ok3 h z) (cvs_num hA) (p := q + 1) hqn2 (t := A.1.1 - 1) (by omega) c4) ?_
              rintro v h' hres
              have hres := ct_res_fr (ct_fr.num z) hres
              rcases hres with ⟨f, k1, rfl, k2⟩ | ⟨q, A', k1, k2, rfl, g', rfl, k4⟩
              · obtain ⟨g', rfl, k2⟩ := k2
                refine zz_fin.if rfl (fun cz => ?_) (fun cz => zc_no0 cz)
                refine zz_fin.steps (n := 1) (s' := (136, [some (.ref 454), some (.ref 34), some (.int 112), some (.ref (5 * (A.1.1 - 1) + 46)), some (.int 1), some (.int z)], [.int 0], aa_H (g'))) rfl ?_
                exact zz_fin.at (n := 1) rfl (.inl ⟨f, k1, rfl, g', rfl, k2⟩)
              · refine zz_fin.if rfl (fun cz => zc_no1 cz) (fun cz => ?_)
                refine zz_fin.steps (n := 3) (s' := (136, [some (.ref 454), some (.ref 34), some (.int 112), some (.ref (5 * (A.1.1 - 1) + 46)), some (.int 1), some (.int z)], [.int 1], aa_H (tc_at g' b n q))) rfl ?_
                exact zz_fin.at (n := 1) rfl (.inr ⟨q, A', k1, k2, rfl, g', rfl, k4⟩)
            · rw [if_neg hs]
              refine zz_fin.if rfl (fun cz => ?_) (fun cz => zc_no0 cz)
              refine zz_fin.steps (n := 1) (s' := (136, [some (.ref 454), some (.ref 34), some (.int (sp_hb b n p)), some (.ref (5 * (A.1.1 - 1) + 46)), some (.int 1), some (.int z)], [.int 0], aa_H (g'))) rfl ?_
              exact zz_fin.at (n := 1) rfl (.inl ⟨q, rfl, rfl, g', rfl, (ct_fr.num z).bad hg⟩)
        · have hc12 := hT.2.2.1
          have c4 : A.2.1 (A.1.1 - 1) = 12 := Decidable.byContradiction fun z => c4 (decide_eq_true (aa_lt32.mpr (by rw [zz_ofN (by omega), show (12 : Int32).toInt = 12 from rfl]; omega)))
          have e : sp_item b n p A = .inl p := by rw [show sp_item b n p A = _ from if_neg c1, if_neg fun z => z.2.2 c4]
          refine zz_fin.steps (n := 1) (s' := (60, [some (.ref 454), some (.ref 34), some (.int (sp_hb b n p)), some (.ref (5 * (A.1.1 - 1) + 46)), some (.int 1), none], [.ref 454], aa_H (tc_at g b n p))) rfl ?_
          refine zz_fin.call rfl rfl (Nat.le_of_ble_eq_true rfl) (tc_fail) ?_
          rintro v h' ⟨rfl, g', rfl, hg⟩
          exact zz_fin.at (n := 1) rfl (bad e _ _ ⟨rfl, g', rfl, hg⟩)
      · have c2 : sp_hb b n p ≠ 112 := fun z => c2 (decide_eq_true z)
        refine zz_fin.steps (n := 2) (s' := (31, [some (.ref 454), some (.ref 34), some (.int (sp_hb b n p)), some (.ref (5 * (A.1.1 - 1) + 46)), none, none], [.int 120, .int (sp_hb b n p)], aa_H (tc_at g b n p))) rfl ?_
        refine zz_fin.ic rfl (fun c3 => ?_) (fun c3 => ?_)
        · have c3 : sp_hb b n p ≠ 120 := of_decide_eq_true c3
          have e : sp_item b n p A = .inl p := by rw [show sp_item b n p A = _ from if_neg c1, if_neg fun z => z.1.elim c2 c3]
          refine zz_fin.steps (n := 3) (s' := (43, [some (.ref 454), some (.ref 34), some (.int (sp_hb b n p)), some (.ref (5 * (A.1.1 - 1) + 46)), some (.int 0), none], [.int 0], aa_H (tc_at g b n p))) rfl ?_
          refine zz_fin.if rfl (fun cz => ?_) (fun cz => zc_no0 cz)
          refine zz_fin.steps (n := 1) (s' := (60, [some (.ref 454), some (.ref 34), some (.int (sp_hb b n p)), some (.ref (5 * (A.1.1 - 1) + 46)), some (.int 0), none], [.ref 454], aa_H (tc_at g b n p))) rfl ?_
          refine zz_fin.call rfl rfl (Nat.le_of_ble_eq_true rfl) (tc_fail) ?_
          rintro v h' ⟨rfl, g', rfl, hg⟩
          exact zz_fin.at (n := 1) rfl (bad e _ _ ⟨rfl, g', rfl, hg⟩)
        · have c3 : sp_hb b n p = 120 := Decidable.byContradiction fun z => c3 (decide_eq_true z)
          have hlet : sp_hb b n p = 112 ∨ sp_hb b n p = 120 := .inr c3
          have hp1 : p < n := hb_lt c3 (by decide)
          refine zz_fin.steps (n := 4) (s' := (43, [some (.ref 454), some (.ref 34), some (.int (sp_hb b n p)), some (.ref (5 * (A.1.1 - 1) + 46)), some (.int 1), none], [.int 1], aa_H (tc_at g b n p))) rfl ?_
          refine zz_fin.if rfl (fun cz => zc_no1 cz) (fun cz => ?_)
          refine zz_fin.steps (n := 3) (s' := (51, [some (.ref 454), some (.ref 34), some (.int (sp_hb b n p)), some (.ref (5 * (A.1.1 - 1) + 46)), some (.int 1), none], [.ref (5 * (A.1.1 - 1) + 46)], aa_H (tc_at g b n p))) rfl ?_
          refine zz_fin.gt1_34 ht rfl ?_
          rw [hT.2.1]
          refine zz_fin.steps (n := 1) (s' := (56, [some (.ref 454), some (.ref 34), some (.int (sp_hb b n p)), some (.ref (5 * (A.1.1 - 1) + 46)), some (.int 1), none], [.int 12, .int (Int32.ofNat (A.2.1 (A.1.1 - 1)))], aa_H (tc_at g b n p))) rfl ?_
          refine zz_fin.ic rfl (fun c4 => ?_) (fun c4 => ?_)
          · have c4 : (Int32.ofNat (A.2.1 (A.1.1 - 1))).toInt < (12 : Int32).toInt := aa_lt32.mp (of_decide_eq_true c4)
            have hc12 := hT.2.2.1
            rw [zz_ofN (by omega), show (12 : Int32).toInt = 12 from rfl] at c4
            have c4 : A.2.1 (A.1.1 - 1) < 12 := by omega
            rw [show sp_item b n p A = _ from if_neg c1, if_pos ⟨hlet, e0, by omega⟩]
            refine zz_fin.steps (n := 1) (s' := (65, [some (.ref 454), some (.ref 34), some (.int (sp_hb b n p)), some (.ref (5 * (A.1.1 - 1) + 46)), some (.int 1), none], [.ref 454], aa_H (tc_at g b n p))) rfl ?_
            refine zz_fin.call rfl rfl (Nat.le_of_ble_eq_true rfl) (tc_step h hp1) ?_
            rintro v h ⟨rfl, rfl⟩
            have hT2 := (cvs_at (b := b) (n := n) (p := p + 1) hA).2.2 (A.1.1 - 1) (by omega)
            refine zz_fin.steps (n := 3) (s' := (71, [some (.ref 454), some (.ref 34), some (.int (sp_hb b n p)), some (.ref (5 * (A.1.1 - 1) + 46)), some (.int 1), none], [.ref (5 * (A.1.1 - 1) + 46), .int 1, .ref 454], aa_H (tc_at g b n (p + 1)))) rfl ?_
            refine zz_fin.callv (k := 5 * (A.1.1 - 1) + 45) (as := []) rfl rfl rfl (dt_obj_34 ht) (Nat.le_of_ble_eq_true rfl) (Nat.le_of_ble_eq_true rfl) (dt_lat_34 ht hT2.2.2.1 hT2.2.1) ?_
            rintro v h ⟨rfl, rfl⟩
            have hlow : (if A.2.1 (A.1.1 - 1) = 0 then -1 else tc_at g b n (p + 1) (5 * (A.1.1 - 1) + 47) (A.2.1 (A.1.1 - 1) - 1)) + 1 = sp_low A := by
              unfold sp_low
              by_cases z : A.2.1 (A.1.1 - 1) = 0
              · rw [if_pos z, if_pos z]
              · rw [if_neg z, if_neg z]
                exact congrArg (· + 1) (hT2.2.2.2 (A.2.1 (A.1.1 - 1) - 1) (by omega)).1
            generalize (if A.2.1 (A.1.1 - 1) = 0 then -1 else tc_at g b n (p + 1) (5 * (A.1.1 - 1) + 47) (A.2.1 (A.1.1 - 1) - 1)) = LOW at hlow ⊢
            rw [← hlow]
            refine zz_fin.steps (n := 3) (s' := (79, [some (.ref 454), some (.ref 34), some (.int (sp_hb b n p)), some (.ref (5 * (A.1.1 - 1) + 46)), some (.int 1), none], [.int 359, .int (LOW + 1), .int 1, .ref 454], aa_H (tc_at g b n (p + 1)))) rfl ?_
            refine zz_fin.call rfl rfl (Nat.le_of_ble_eq_true rfl) (tc_num (neg := true) h (p := p + 1) hp1 (LOW + 1) 359) ?_
            rintro v h (⟨f, hf, rfl, g', rfl, hg⟩ | ⟨q, z, hq, rfl, rfl⟩)
            · rw [hf]
              refine zz_fin.if rfl (fun cz => absurd cz (by decide)) (fun cz => ?_)
              refine zz_fin.steps (n := 1) (s' := (86, [some (.ref 454), some (.ref 34), some (.int (sp_hb b n p)), some (.ref (5 * (A.1.1 - 1) + 46)), some (.int 1), none], [.int 0], aa_H (g'))) rfl ?_
              exact zz_fin.at (n := 1) rfl (.inl ⟨f, rfl, rfl, g', rfl, ct_fr.rf.bad hg⟩)
            · rw [hq]
              have hqn := sp_num_n hq hp1
              refine zz_fin.if rfl (fun cz => ?_) (fun cz => absurd rfl cz)
              unfold sp_then sp_pass
              dsimp only
              refine zz_fin.steps (n := 5) (s' := (96, [some (.ref 454), some (.ref 34), some (.int (sp_hb b n p)), some (.ref (5 * (A.1.1 - 1) + 46)), some (.int 1), some (.int z)], [.int 44, .ref 454], aa_H (tc_at (zz_w g 454 3 z) b n q))) rfl ?_
              refine zz_fin.call rfl rfl (Nat.le_of_ble_eq_true rfl) (tc_pass (tc_ok3 h z) (by decide)) ?_
              rintro v h (⟨rfl, hs, hqn2, rfl⟩ | ⟨rfl, hs, g', rfl, hg⟩)
              · rw [if_pos hs]
                refine zz_fin.if rfl (fun cz => zc_no1 cz) (fun cz => ?_)
                refine zz_fin.steps (n := 2) (s' := (105, [some (.ref 454), some (.ref 34), some (.int (sp_hb b n p)), some (.ref (5 * (A.1.1 - 1) + 46)), some (.int 1), some (.int z)], [.int 112, .int (sp_hb b n p)], aa_H (tc_at (zz_w g 454 3 z) b n (q + 1)))) rfl ?_
                rw [if_neg c2, c3]
                refine zz_fin.ic rfl (fun cz => ?_) (fun cz => absurd rfl cz)
                refine zz_fin.steps (n := 3) (s' := (125, [some (.ref 454), some (.ref 34), some (.int 120), some (.ref (5 * (A.1.1 - 1) + 46)), some (.int 1), some (.int z)], [.int z, .ref (5 * (A.1.1 - 1) + 46), .ref 454], aa_H (tc_at (zz_w g 454 3 z) b n (q + 1)))) rfl ?_
                refine zz_fin.call rfl rfl (Nat.le_of_ble_eq_true rfl) (ct_kind (tc_ok3 h z) (cvs_num hA) (p := q + 1) hqn2 (t := A.1.1 - 1) (by omega) c4) ?_
                rintro v h' hres
                have hres := ct_res_fr (ct_fr.num z) hres
                rcases hres with ⟨f, k1, rfl, k2⟩ | ⟨q, A', k1, k2, rfl, g', rfl, k4⟩
                · obtain ⟨g', rfl, k2⟩ := k2
                  refine zz_fin.if rfl (fun cz => ?_) (fun cz => zc_no0 cz)
                  refine zz_fin.steps (n := 1) (s' := (136, [some (.ref 454), some (.ref 34), some (.int 120), some (.ref (5 * (A.1.1 - 1) + 46)), some (.int 1), some (.int z)], [.int 0], aa_H (g'))) rfl ?_
                  exact zz_fin.at (n := 1) rfl (.inl ⟨f, k1, rfl, g', rfl, k2⟩)
                · refine zz_fin.if rfl (fun cz => zc_no1 cz) (fun cz => ?_)
                  refine zz_fin.steps (n := 2) (s' := (136, [some (.ref 454), some (.ref 34), some (.int 120), some (.ref (5 * (A.1.1 - 1) + 46)), some (.int 1), some (.int z)], [.int 1], aa_H (tc_at g' b n q))) rfl ?_
                  exact zz_fin.at (n := 1) rfl (.inr ⟨q, A', k1, k2, rfl, g', rfl, k4⟩)
              · rw [if_neg hs]
                refine zz_fin.if rfl (fun cz => ?_) (fun cz => zc_no0 cz)
                refine zz_fin.steps (n := 1) (s' := (136, [some (.ref 454), some (.ref 34), some (.int (sp_hb b n p)), some (.ref (5 * (A.1.1 - 1) + 46)), some (.int 1), some (.int z)], [.int 0], aa_H (g'))) rfl ?_
                exact zz_fin.at (n := 1) rfl (.inl ⟨q, rfl, rfl, g', rfl, (ct_fr.num z).bad hg⟩)
          · have hc12 := hT.2.2.1
            have c4 : A.2.1 (A.1.1 - 1) = 12 := Decidable.byContradiction fun z => c4 (decide_eq_true (aa_lt32.mpr (by rw [zz_ofN (by omega), show (12 : Int32).toInt = 12 from rfl]; omega)))
            have e : sp_item b n p A = .inl p := by rw [show sp_item b n p A = _ from if_neg c1, if_neg fun z => z.2.2 c4]
            refine zz_fin.steps (n := 1) (s' := (60, [some (.ref 454), some (.ref 34), some (.int (sp_hb b n p)), some (.ref (5 * (A.1.1 - 1) + 46)), some (.int 1), none], [.ref 454], aa_H (tc_at g b n p))) rfl ?_
            refine zz_fin.call rfl rfl (Nat.le_of_ble_eq_true rfl) (tc_fail) ?_
            rintro v h' ⟨rfl, g', rfl, hg⟩
            exact zz_fin.at (n := 1) rfl (bad e _ _ ⟨rfl, g', rfl, hg⟩)
  · have c1 : sp_hb b n p = 116 := Decidable.byContradiction fun z => c1 (decide_eq_true z)
    rw [show sp_item b n p A = sp_rtown b n p A from if_pos c1]
    refine zz_fin.steps (n := 2) (s' := (13, [some (.ref 454), some (.ref 34), some (.int (sp_hb b n p)), none, none, none], [.ref 34, .ref 454], aa_H (tc_at g b n p))) rfl ?_
    refine zz_fin.call rfl rfl (Nat.le_of_ble_eq_true rfl) (ct_rtown h hA (hb_lt c1 (by decide))) ?_
    rintro v h' hres
    rcases hres with ⟨f, k1, rfl, k2⟩ | ⟨q, A', k1, k2, rfl, k3⟩
    · exact zz_fin.at (n := 1) rfl (.inl ⟨f, k1, rfl, k2⟩)
    · exact zz_fin.at (n := 1) rfl (.inr ⟨q, A', k1, k2, rfl, k3⟩)
end
section
/-! A TEXT: the class reads it whole -/
theorem sp_item_le {b : Nat → Int32} {n p q : Nat} {A A' : sp_A} (h : sp_item b n p A = .inr (q, A')) (hp : p ≤ n) : p ≤ q := by
  have key : ∀ {neg : Bool} {lo hi : Int32} {p0 : Nat} {k : Nat → Int32 → Nat ⊕ (Nat × sp_A)}, p0 ≤ n → sp_then (sp_num b n neg lo hi p0) k = .inr (q, A') → ∃ q1 z, p0 < q1 ∧ q1 ≤ n ∧ k q1 z = .inr (q, A') := fun {neg lo hi p0 k} h0 e => by
    cases hs : sp_num b n neg lo hi p0 with
    | inl f => rw [hs] at e; cases e
    | inr r =>
      obtain ⟨q1, z⟩ := r
      rw [hs] at e
      have := sp_num_n hs h0
      exact ⟨q1, z, this.2, this.1, e⟩
  have pas : ∀ {c : Int32} {p0 : Nat} {k : Nat → Nat ⊕ (Nat × sp_A)}, c ≠ -1 → sp_pass b n c p0 k = .inr (q, A') → p0 < n ∧ k (p0 + 1) = .inr (q, A') := fun {c p0 k} hc e => by
    unfold sp_pass at e
    split at e
    · rename_i hh
      exact ⟨hb_lt hh hc, e⟩
    · cases e
  have inj : ∀ {q1 : Nat} {A1 : sp_A}, (Sum.inr (q1, A1) : Nat ⊕ (Nat × sp_A)) = .inr (q, A') → q1 = q := fun e => congrArg Prod.fst (Sum.inr.inj e)
  unfold sp_item at h
  split at h
  · rename_i hh
    have hlt := hb_lt hh (by decide)
    unfold sp_rtown at h
    split at h
    · cases h
    · obtain ⟨q1, z, e1, e2, e3⟩ := key hlt h
      have := inj e3
      omega
  · split at h
    · rename_i hh
      have hlt : p < n := hh.1.elim (fun e => hb_lt e (by decide)) (fun e => hb_lt e (by decide))
      obtain ⟨q1, y, e1, e2, e3⟩ := key hlt h
      obtain ⟨e4, e5⟩ := pas (by decide) e3
      split at e5
      · obtain ⟨q2, d, f1, f2, f3⟩ := key e4 e5
        obtain ⟨f4, f5⟩ := pas (by decide) f3
        obtain ⟨q3, k, j1, j2, j3⟩ := key f4 f5
        have := inj j3
        omega
      · obtain ⟨q2, z, f1, f2, f3⟩ := key e4 e5
        have := inj f3
        omega
    · cases h
/-- items, one behind another -/
def sp_items (b : Nat → Int32) (n : Nat) : Nat → Nat → Nat → sp_A → Nat ⊕ (Nat × sp_A)
  | 0, _, c, A => .inr (c, A)
  | k + 1, p, c, A => if p < n then (match sp_item b n p A with
    | .inl f => .inl f
    | .inr (q, A') => if sp_hb b n q = 59 then sp_items b n k (q + 1) (c + 1) A' else .inl q) else .inr (c, A)
theorem ct_fr.at {g : aa_G} {b : Nat → Int32} {n p : Nat} : ct_fr g (tc_at g b n p) := fun k j _ h => by
  unfold tc_at
  rw [aa_w_ne _ _ (by omega), aa_w_ne _ _ (by omega)]
def ct_all (g : aa_G) (r : Nat ⊕ (Nat × sp_A)) (v : Option Value) (h : zz_H) : Prop := (∃ f, r = .inl f ∧ v = some (.int (-1)) ∧ ∃ g', h = aa_H g' ∧ ct_bad g f g') ∨ (∃ c A', r = .inr (c, A') ∧ c ≤ 500 ∧ v = some (.int (Int32.ofNat c)) ∧ ∃ g', h = aa_H g' ∧ ct_fr g g' ∧ cvs g' 34 A')
theorem ct_all_fr {g g1 : aa_G} {r : Nat ⊕ (Nat × sp_A)} {v : Option Value} {h : zz_H} (hf : ct_fr g g1) (k : ct_all g1 r v h) : ct_all g r v h := by
  rcases k with ⟨f, k1, k2, g', k3, k4⟩ | ⟨q, A', k1, k2, k3, g', k4, k5, k6⟩
  · exact .inl ⟨f, k1, k2, g', k3, hf.bad2 k4⟩
  · exact .inr ⟨q, A', k1, k2, k3, g', k4, hf.tr k5, k6⟩
theorem tc_more {g : aa_G} {b : Nat → Int32} {n p : Nat} (h : tc_ok g b n) (hp : p ≤ 500) : zz_fin none 22 (0, zz_in [.ref 454] (zz_nl 22), [], aa_H (tc_at g b n p)) (fun v h => ((v = some (.int 1) ∧ p < n) ∨ (v = some (.int 0) ∧ ¬ p < n)) ∧ h = aa_H (tc_at g b n p)) := by
  have hn := h.2.1
  have h0' : tc_at g b n p 454 0 = Int32.ofNat n := h.1
  refine zz_fin.steps (n := 4) (s' := (8, [some (.ref 454)], [.int ((tc_at g b n p) 454 0), .int (Int32.ofNat p)], aa_H (tc_at g b n p))) rfl ?_
  rw [h0']
  refine zz_fin.ic rfl (fun c1 => ?_) (fun c1 => ?_)
  · have c1 : (Int32.ofNat n).toInt ≤ (Int32.ofNat p).toInt := aa_le32.mp (of_decide_eq_true c1)
    rw [zz_ofN (by omega), zz_ofN (by omega)] at c1
    refine zz_fin.steps (n := 1) (s' := (16, [some (.ref 454)], [.int 0], aa_H (tc_at g b n p))) rfl ?_
    exact zz_fin.at (n := 1) rfl ⟨.inr ⟨rfl, by omega⟩, rfl⟩
  · have c1 : ¬ (Int32.ofNat n).toInt ≤ (Int32.ofNat p).toInt := fun z => c1 (decide_eq_true (aa_le32.mpr z))
    rw [zz_ofN (by omega), zz_ofN (by omega)] at c1
    refine zz_fin.steps (n := 2) (s' := (16, [some (.ref 454)], [.int 1], aa_H (tc_at g b n p))) rfl ?_
    exact zz_fin.at (n := 1) rfl ⟨.inl ⟨rfl, by omega⟩, rfl⟩
theorem tc_step0 {g : aa_G} {b : Nat → Int32} {n : Nat} (h : tc_ok g b n) : zz_fin none 21 (0, zz_in [.ref 454] (zz_nl 21), [], aa_H (zz_w g 454 1 (-1))) (fun v h => v = none ∧ h = aa_H (tc_at g b n 0)) := by
  obtain ⟨h0, hn, hb⟩ := h
  have done : ∀ s : Int32, s = sp_hb b n 0 → zz_w (zz_w (zz_w g 454 1 (-1)) 454 1 (Int32.ofNat 0)) 454 2 s = tc_at g b n 0 := fun s hs => by
    rw [hs, zz_w_ww]
    rfl
  refine zz_fin.steps (n := 5) (s' := (7, [some (.ref 454)], [.int ((-1) + 1), .ref 454], aa_H (zz_w g 454 1 (-1)))) rfl ?_
  rw [show (-1 : Int32) + 1 = Int32.ofNat 0 from rfl]
  refine zz_fin.steps (n := 4) (s' := (15, [some (.ref 454)], [.int (Int32.ofNat 0), .ref 454], aa_H (zz_w (zz_w g 454 1 (-1)) 454 1 (Int32.ofNat 0)))) rfl ?_
  refine zz_fin.if rfl (fun cz => absurd cz (by decide)) (fun cz => ?_)
  refine zz_fin.steps (n := 4) (s' := (26, [some (.ref 454)], [.int ((zz_w (zz_w g 454 1 (-1)) 454 1 (Int32.ofNat 0)) 454 0), .int (Int32.ofNat 0), .ref 454], aa_H (zz_w (zz_w g 454 1 (-1)) 454 1 (Int32.ofNat 0)))) rfl ?_
  have h0' : (zz_w (zz_w g 454 1 (-1)) 454 1 (Int32.ofNat 0)) 454 0 = Int32.ofNat n := h0
  rw [h0']
  refine zz_fin.ic rfl (fun c2 => ?_) (fun c2 => ?_)
  · have c2 : (Int32.ofNat n).toInt ≤ (Int32.ofNat 0).toInt := aa_le32.mp (of_decide_eq_true c2)
    rw [zz_ofN (by omega), zz_ofN (by omega)] at c2
    refine zz_fin.steps (n := 2) (s' := (55, [some (.ref 454)], [], aa_H (zz_w (zz_w (zz_w g 454 1 (-1)) 454 1 (Int32.ofNat 0)) 454 2 (-1)))) rfl ?_
    exact zz_fin.at (n := 1) rfl ⟨rfl, by rw [done _ (if_neg (by omega)).symm]⟩
  · have c2 : ¬ (Int32.ofNat n).toInt ≤ (Int32.ofNat 0).toInt := fun z => c2 (decide_eq_true (aa_le32.mpr z))
    rw [zz_ofN (by omega), zz_ofN (by omega)] at c2
    refine zz_fin.steps (n := 3) (s' := (36, [some (.ref 454)], [.int 500, .int (Int32.ofNat 0), .ref 454], aa_H (zz_w (zz_w g 454 1 (-1)) 454 1 (Int32.ofNat 0)))) rfl ?_
    refine zz_fin.ic rfl (fun cz => absurd cz (by decide)) (fun cz => ?_)
    refine zz_fin.steps (n := 4) (s' := (47, [some (.ref 454)], [.int (Int32.ofNat 0), .ref 455, .ref 454], aa_H (zz_w (zz_w g 454 1 (-1)) 454 1 (Int32.ofNat 0)))) rfl ?_
    refine zz_fin.ial (n := 500) rfl rfl (zz_inbN (by omega) (by omega)) ?_
    rw [zz_toN (by omega)]
    have hb1 : (zz_w (zz_w g 454 1 (-1)) 454 1 (Int32.ofNat 0)) 455 0 = b 0 := hb 0 (by omega)
    have hb2 : sp_hb b n 0 = b 0 := if_pos (by omega)
    refine zz_fin.steps (n := 2) (s' := (55, [some (.ref 454)], [], aa_H (zz_w (zz_w (zz_w g 454 1 (-1)) 454 1 (Int32.ofNat 0)) 454 2 ((zz_w (zz_w g 454 1 (-1)) 454 1 (Int32.ofNat 0)) 455 0)))) rfl ?_
    exact zz_fin.at (n := 1) rfl ⟨rfl, by rw [done _ (hb1.trans hb2.symm)]⟩
theorem tc_rew {g : aa_G} {b : Nat → Int32} {n : Nat} (h : tc_ok g b n) : zz_fin none 20 (0, zz_in [.ref 454] (zz_nl 20), [], aa_H g) (fun v h => v = none ∧ h = aa_H (tc_at (zz_w g 454 4 (-1)) b n 0)) := by
  refine zz_fin.steps (n := 7) (s' := (11, [some (.ref 454)], [.ref 454], aa_H (zz_w (zz_w g 454 4 (-1)) 454 1 (-1)))) rfl ?_
  refine zz_fin.call rfl rfl (Nat.le_of_ble_eq_true rfl) (tc_step0 (g := zz_w g 454 4 (-1)) h) ?_
  rintro v h ⟨rfl, rfl⟩
  exact zz_fin.at (n := 1) rfl ⟨rfl, rfl⟩
theorem ct_loop {b : Nat → Int32} {n : Nat} : ∀ (k p c : Nat) (A : sp_A) (g : aa_G), n < k + p → c ≤ p → p ≤ n → tc_ok g b n → cvs g 34 A → zz_fin none 19 (6, [some (.ref 454), some (.ref 34), some (.int (Int32.ofNat c))], [], aa_H (tc_at g b n p)) (ct_all g (sp_items b n k p c A)) := by
  intro k
  induction k with
  | zero => intro p c A g hk hc hp h hA; omega
  | succ k ih =>
    intro p c A g hk hc hp h hA
    have hn := h.2.1
    have stop : ¬ p < n → ct_all g (sp_items b n (k + 1) p c A) (some (.int (Int32.ofNat c))) (aa_H (tc_at g b n p)) := fun e => .inr ⟨c, A, if_neg e, by omega, rfl, _, rfl, ct_fr.at, cvs_at hA⟩
    refine zz_fin.steps (n := 2) (s' := (10, [some (.ref 454), some (.ref 34), some (.int (Int32.ofNat c))], [.int 500, .int (Int32.ofNat c)], aa_H (tc_at g b n p))) rfl ?_
    refine zz_fin.ic rfl (fun c1 => ?_) (fun c1 => ?_)
    · have c1 : (500 : Int32).toInt ≤ (Int32.ofNat c).toInt := aa_le32.mp (of_decide_eq_true c1)
      rw [zz_ofN (by omega), show (500 : Int32).toInt = 500 from rfl] at c1
      refine zz_fin.steps (n := 1) (s' := (46, [some (.ref 454), some (.ref 34), some (.int (Int32.ofNat c))], [.int (Int32.ofNat c)], aa_H (tc_at g b n p))) rfl ?_
      exact zz_fin.at (n := 1) rfl (stop (by omega))
    · refine zz_fin.steps (n := 1) (s' := (14, [some (.ref 454), some (.ref 34), some (.int (Int32.ofNat c))], [.ref 454], aa_H (tc_at g b n p))) rfl ?_
      refine zz_fin.call rfl rfl (Nat.le_of_ble_eq_true rfl) (tc_more h (by omega)) ?_
      rintro v h ⟨⟨rfl, hm⟩ | ⟨rfl, hm⟩, rfl⟩
      · refine zz_fin.if rfl (fun cz => zc_no1 cz) (fun cz => ?_)
        rw [show sp_items b n (k + 1) p c A = _ from if_pos hm]
        refine zz_fin.steps (n := 2) (s' := (22, [some (.ref 454), some (.ref 34), some (.int (Int32.ofNat c))], [.ref 34, .ref 454], aa_H (tc_at g b n p))) rfl ?_
        refine zz_fin.call rfl rfl (Nat.le_of_ble_eq_true rfl) (ct_item h hA hp) ?_
        rintro v h (⟨f, hf, rfl, g', rfl, hg⟩ | ⟨q, A', hf, hqn, rfl, g', rfl, hfr, hA'⟩)
        · rw [hf]
          refine zz_fin.if rfl (fun cz => ?_) (fun cz => zc_no0 cz)
          refine zz_fin.steps (n := 1) (s' := (38, [some (.ref 454), some (.ref 34), some (.int (Int32.ofNat c))], [.int (-1)], aa_H (g'))) rfl ?_
          exact zz_fin.at (n := 1) rfl (.inl ⟨f, rfl, rfl, g', rfl, hg⟩)
        · rw [hf]
          have hle := sp_item_le hf hp
          dsimp only
          refine zz_fin.if rfl (fun cz => zc_no1 cz) (fun cz => ?_)
          refine zz_fin.steps (n := 2) (s' := (31, [some (.ref 454), some (.ref 34), some (.int (Int32.ofNat c))], [.int 59, .ref 454], aa_H (tc_at g' b n q))) rfl ?_
          refine zz_fin.call rfl rfl (Nat.le_of_ble_eq_true rfl) (tc_pass (ct_ok h hfr) (by decide)) ?_
          rintro v h (⟨rfl, hs, hqn2, rfl⟩ | ⟨rfl, hs, g2, rfl, hg⟩)
          · rw [if_pos hs]
            refine zz_fin.if rfl (fun cz => ?_) (fun cz => absurd rfl cz)
            refine zz_fin.steps (n := 2) (s' := (6, [some (.ref 454), some (.ref 34), some (.int ((Int32.ofNat c) + 1))], [], aa_H (tc_at g' b n (q + 1)))) rfl ?_
            rw [aa_succ]
            refine (ih (q + 1) (c + 1) A' g' (by omega) (by omega) hqn2 (ct_ok h hfr) hA').mono ?_
            rintro v h hres
            exact ct_all_fr hfr hres
          · rw [if_neg hs]
            refine zz_fin.if rfl (fun cz => absurd cz (by decide)) (fun cz => ?_)
            refine zz_fin.steps (n := 1) (s' := (38, [some (.ref 454), some (.ref 34), some (.int (Int32.ofNat c))], [.int (-1)], aa_H g2)) rfl ?_
            exact zz_fin.at (n := 1) rfl (.inl ⟨q, rfl, rfl, g2, rfl, hfr.bad hg⟩)
      · refine zz_fin.if rfl (fun cz => ?_) (fun cz => zc_no0 cz)
        refine zz_fin.steps (n := 1) (s' := (46, [some (.ref 454), some (.ref 34), some (.int (Int32.ofNat c))], [.int (Int32.ofNat c)], aa_H (tc_at g b n p))) rfl ?_
        exact zz_fin.at (n := 1) rfl (stop hm)
theorem ct_fr.fault {g : aa_G} {f : Nat} {r : Nat ⊕ (Nat × sp_A)} {v : Option Value} {h : zz_H} (k : ct_all (zz_w g 454 4 (-1)) r v h) : (∃ f, r = .inl f ∧ v = some (.int (-1)) ∧ ∃ g', h = aa_H g' ∧ ct_bad g f g') ∨ (∃ c A', r = .inr (c, A') ∧ c ≤ 500 ∧ v = some (.int (Int32.ofNat c)) ∧ ∃ g', h = aa_H g' ∧ ct_fr (zz_w g 454 4 (-1)) g' ∧ cvs g' 34 A') := by
  rcases k with ⟨f, k1, k2, g', k3, k4⟩ | k
  · exact .inl ⟨f, k1, k2, g', k3, fun k j e1 e2 => (k4.1 k j e1 e2).trans (aa_w_ne _ _ (by omega)), k4.2⟩
  · exact .inr k
/-- the whole text -/
theorem ct_read {g : aa_G} {b : Nat → Int32} {n : Nat} {A : sp_A} (h : tc_ok g b n) (hA : cvs g 34 A) : zz_fin none 19 (0, zz_in [.ref 454, .ref 34] (zz_nl 19), [], aa_H g) (ct_all (zz_w g 454 4 (-1)) (sp_items b n (n + 1) 0 0 A)) := by
  refine zz_fin.steps (n := 1) (s' := (1, [some (.ref 454), some (.ref 34), none], [.ref 454], aa_H g)) rfl ?_
  refine zz_fin.call rfl rfl (Nat.le_of_ble_eq_true rfl) (tc_rew h) ?_
  rintro v h ⟨rfl, rfl⟩
  refine zz_fin.steps (n := 2) (s' := (6, [some (.ref 454), some (.ref 34), some (.int (Int32.ofNat 0))], [], aa_H (tc_at (zz_w g 454 4 (-1)) b n 0))) rfl ?_
  exact ct_loop (n + 1) 0 0 A (zz_w g 454 4 (-1)) (by omega) (by omega) (by omega) h (cvs_of hA fun k j _ _ => aa_w_ne _ _ (by omega))
end
section
/-! A TEXT: the model's side -/
theorem tm_inc (g : aa_G) (p q : Nat) (z : Int32) : zz_w (tm_at g p z) 540 5 (Int32.ofNat q) = tm_at g q z := tm_over5 g p z _
theorem tm_comm (g : aa_G) (p : Nat) (z : Int32) {k j : Nat} {v : Int32} (h : k ≠ 540) : zz_w (tm_at g p z) k j v = tm_at (zz_w g k j v) p z := by
  unfold tm_at
  rw [zz_w_comm _ (k := 540) (j := 7) (a := k) (b := j) _ _ (fun e => h e.1), zz_w_comm g (k := 540) (j := 5) (a := k) (b := j) _ _ (fun e => h e.1)]
/-- the model's towns, in row 0 -/
def mv0t (g : aa_G) (t : Nat) (o : Int32) (c : Nat) (f : Nat → Nat → Int32) : Prop := g 541 (3 + 50 * t) = o ∧ g 541 (3 + 50 * t + 1) = Int32.ofNat c ∧ c ≤ 12 ∧ ∀ i, i < c → g 541 (5 + 50 * t + 4 * i) = f i 0 ∧ g 541 (5 + 50 * t + 4 * i + 1) = f i 1 ∧ g 541 (5 + 50 * t + 4 * i + 2) = f i 2 ∧ g 541 (5 + 50 * t + 4 * i + 3) = f i 3
def mv0 (g : aa_G) (A : sp_A) : Prop := g 541 0 = Int32.ofNat A.1.1 ∧ A.1.1 ≤ 4 ∧ ∀ t, t < A.1.1 → mv0t g t (A.1.2 t) (A.2.1 t) (A.2.2 t)
theorem mv0_of {g g' : aa_G} {A : sp_A} (h : mv0 g A) (hf : ∀ j, j < 203 → g' 541 j = g 541 j) : mv0 g' A := by
  obtain ⟨h1, h2, h3⟩ := h
  refine ⟨(hf 0 (by omega)).trans h1, h2, fun t ht => ?_⟩
  obtain ⟨k1, k2, k3, k4⟩ := h3 t ht
  refine ⟨(hf _ (by omega)).trans k1, (hf _ (by omega)).trans k2, k3, fun i hi => ?_⟩
  obtain ⟨m1, m2, m3, m4⟩ := k4 i hi
  exact ⟨(hf _ (by omega)).trans m1, (hf _ (by omega)).trans m2, (hf _ (by omega)).trans m3, (hf _ (by omega)).trans m4⟩
/-- of the towns of row 0 alone has anything changed -/
def mt_fr (g g' : aa_G) : Prop := ∀ k j, ¬ (k = 541 ∧ (j = 0 ∨ (3 ≤ j ∧ j < 203))) → g' k j = g k j
def mt_bad (g : aa_G) (f : Nat) (g' : aa_G) : Prop := (∀ k j, ¬ (k = 541 ∧ (j = 0 ∨ (3 ≤ j ∧ j < 203))) → ¬ (k = 540 ∧ 5 ≤ j ∧ j ≤ 7) → g' k j = g k j) ∧ g' 540 6 = Int32.ofNat f ∧ ∃ T, T ≤ 4 ∧ g' 541 0 = Int32.ofNat T
theorem mt_fr.rf {g : aa_G} : mt_fr g g := fun _ _ _ => rfl
theorem mt_fr.tr {g g1 g2 : aa_G} (h1 : mt_fr g g1) (h2 : mt_fr g1 g2) : mt_fr g g2 := fun k j a => (h2 k j a).trans (h1 k j a)
theorem mt_fr.bad {g g1 g2 : aa_G} {f T : Nat} (h1 : mt_fr g g1) (hT : T ≤ 4) (hT2 : g1 541 0 = Int32.ofNat T) (h2 : tm_bad g1 f g2) : mt_bad g f g2 := ⟨fun k j a b => (h2.1 k j b).trans (h1 k j a), h2.2, T, hT, (h2.1 541 0 (by omega)).trans hT2⟩
theorem mt_fr.bad2 {g g1 g2 : aa_G} {f : Nat} (h1 : mt_fr g g1) (h2 : mt_bad g1 f g2) : mt_bad g f g2 := ⟨fun k j a b => (h2.1 k j a b).trans (h1 k j a), h2.2⟩
theorem mt_fr.w {g : aa_G} {j : Nat} {v : Int32} (h : j = 0 ∨ (3 ≤ j ∧ j < 203)) : mt_fr g (zz_w g 541 j v) := fun a b e => aa_w_ne _ _ fun z => e ⟨z.1, by rw [z.2]; exact h⟩
theorem mt_ok {g g' : aa_G} {b : Nat → Int32} {n : Nat} (h : tm_ok g b n) (hf : mt_fr g g') : tm_ok g' b n := ⟨(hf 540 4 (by omega)).trans h.1, h.2.1, fun j hj => by rw [hf 543 j (by omega)]; exact h.2.2 j hj⟩
/-- a piece and its end -/
def sp_q (b : Nat → Int32) (n : Nat) (r : Nat ⊕ (Nat × sp_A)) : Nat ⊕ (Nat × sp_A) := match r with
  | .inl f => .inl f
  | .inr (q, A) => if sp_hb b n q = 59 then .inr (q + 1, A) else .inl q
def mt_res (g : aa_G) (n : Nat) (r : Nat ⊕ (Nat × sp_A)) (v : Option Value) (h : zz_H) : Prop := (∃ f, r = .inl f ∧ v = some (.int 0) ∧ ∃ g', h = aa_H g' ∧ mt_bad g f g') ∨ (∃ q A', r = .inr (q, A') ∧ q ≤ n ∧ v = some (.int 1) ∧ ∃ g' z', h = aa_H (tm_at g' q z') ∧ mt_fr g g' ∧ mv0 g' A')
/-- the piece's end is read last -/
theorem mt_end {g g1 : aa_G} {b : Nat → Int32} {n q : Nat} {z : Int32} {A : sp_A} (h : tm_ok g b n) (hf : mt_fr g g1) (hA : mv0 g1 A) (hq : q ≤ n) : zz_fin none 173 (0, zz_in [.ref 540, .int 59] (zz_nl 173), [], aa_H (tm_at g1 q z)) (mt_res g n (sp_q b n (.inr (q, A)))) := by
  refine (tm_takes (mt_ok h hf) hq (c := 59) (by decide)).mono ?_
  rintro v h' (⟨rfl, h1, h2, rfl⟩ | ⟨rfl, h1, g', rfl, h2⟩)
  · exact .inr ⟨q + 1, A, if_pos h1, h2, rfl, g1, z, rfl, hf, hA⟩
  · exact .inl ⟨q, if_neg h1, rfl, g', rfl, hf.bad hA.2.1 hA.1 h2⟩
theorem mv0_town {g : aa_G} {A : sp_A} {z : Int32} (h : mv0 g A) (h4 : A.1.1 < 4) : mv0 (zz_w (zz_w (zz_w g 541 (3 + 50 * A.1.1) z) 541 (3 + 50 * A.1.1 + 1) 0) 541 0 (Int32.ofNat (A.1.1 + 1))) (sp_town A z) := by
  obtain ⟨h1, h2, h3⟩ := h
  refine ⟨aa_w_at _ _ _ _, (show A.1.1 + 1 ≤ 4 by omega), fun t ht => ?_⟩
  have ht : t < A.1.1 + 1 := ht
  by_cases e : t = A.1.1
  · subst e
    refine ⟨?_, ?_, ?_, fun i hi => ?_⟩
    · rw [aa_w_ne _ _ (by omega), aa_w_ne _ _ (by omega), aa_w_at]
      exact (if_pos rfl).symm
    · rw [aa_w_ne _ _ (by omega), aa_w_at]
      show (0 : Int32) = Int32.ofNat (if A.1.1 = A.1.1 then 0 else A.2.1 A.1.1)
      rw [if_pos rfl]
      rfl
    · show (if A.1.1 = A.1.1 then 0 else A.2.1 A.1.1) ≤ 12
      rw [if_pos rfl]
      omega
    · have hi : i < (if A.1.1 = A.1.1 then 0 else A.2.1 A.1.1) := hi
      rw [if_pos rfl] at hi
      exact absurd hi (Nat.not_lt_zero i)
  · obtain ⟨k1, k2, k3, k4⟩ := h3 t (by omega)
    refine ⟨?_, ?_, ?_, fun i hi => ?_⟩
    · rw [aa_w_ne _ _ (by omega), aa_w_ne _ _ (by omega), aa_w_ne _ _ (by omega)]
      exact k1.trans (if_neg e).symm
    · rw [aa_w_ne _ _ (by omega), aa_w_ne _ _ (by omega), aa_w_ne _ _ (by omega)]
      show _ = Int32.ofNat (if t = A.1.1 then 0 else A.2.1 t)
      rw [if_neg e]
      exact k2
    · show (if t = A.1.1 then 0 else A.2.1 t) ≤ 12
      rw [if_neg e]
      exact k3
    · have hi : i < (if t = A.1.1 then 0 else A.2.1 t) := hi
      rw [if_neg e] at hi
      obtain ⟨m1, m2, m3, m4⟩ := k4 i hi
      refine ⟨?_, ?_, ?_, ?_⟩
      · rw [aa_w_ne _ _ (by omega), aa_w_ne _ _ (by omega), aa_w_ne _ _ (by omega)]; exact m1
      · rw [aa_w_ne _ _ (by omega), aa_w_ne _ _ (by omega), aa_w_ne _ _ (by omega)]; exact m2
      · rw [aa_w_ne _ _ (by omega), aa_w_ne _ _ (by omega), aa_w_ne _ _ (by omega)]; exact m3
      · rw [aa_w_ne _ _ (by omega), aa_w_ne _ _ (by omega), aa_w_ne _ _ (by omega)]; exact m4
theorem mv0_point {g g' : aa_G} {A : sp_A} {y d k p : Int32} (h : mv0 g A) (h0 : A.1.1 ≠ 0) (hc : A.2.1 (A.1.1 - 1) < 12)
    (e0 : g' 541 (5 + 50 * (A.1.1 - 1) + 4 * A.2.1 (A.1.1 - 1)) = y) (e1 : g' 541 (5 + 50 * (A.1.1 - 1) + 4 * A.2.1 (A.1.1 - 1) + 1) = d) (e2 : g' 541 (5 + 50 * (A.1.1 - 1) + 4 * A.2.1 (A.1.1 - 1) + 2) = k) (e3 : g' 541 (5 + 50 * (A.1.1 - 1) + 4 * A.2.1 (A.1.1 - 1) + 3) = p) (e4 : g' 541 (3 + 50 * (A.1.1 - 1) + 1) = Int32.ofNat (A.2.1 (A.1.1 - 1) + 1))
    (e5 : ∀ j, ¬ (j = 3 + 50 * (A.1.1 - 1) + 1 ∨ (5 + 50 * (A.1.1 - 1) + 4 * A.2.1 (A.1.1 - 1) ≤ j ∧ j ≤ 5 + 50 * (A.1.1 - 1) + 4 * A.2.1 (A.1.1 - 1) + 3)) → g' 541 j = g 541 j) : mv0 g' (sp_point A y d k p) := by
  obtain ⟨h1, h2, h3⟩ := h
  refine ⟨(e5 _ (by omega)).trans h1, h2, fun t ht => ?_⟩
  have ht : t < A.1.1 := ht
  obtain ⟨k1, k2, k3, k4⟩ := h3 t ht
  refine ⟨(e5 _ (by omega)).trans k1, ?_, ?_, fun i hi => ?_⟩
  · show _ = Int32.ofNat (if t = A.1.1 - 1 then A.2.1 t + 1 else A.2.1 t)
    by_cases e : t = A.1.1 - 1
    · rw [if_pos e, e]
      exact e4
    · rw [if_neg e]
      exact (e5 _ (by omega)).trans k2
  · show (if t = A.1.1 - 1 then A.2.1 t + 1 else A.2.1 t) ≤ 12
    split
    · rename_i e
      rw [e]
      omega
    · exact k3
  · have hi : i < (if t = A.1.1 - 1 then A.2.1 t + 1 else A.2.1 t) := hi
    by_cases e : t = A.1.1 - 1 ∧ i = A.2.1 (A.1.1 - 1)
    · obtain ⟨rfl, rfl⟩ := e
      have f : ∀ f, (sp_point A y d k p).2.2 (A.1.1 - 1) (A.2.1 (A.1.1 - 1)) f = sp_fld y d k p f := fun f => if_pos ⟨rfl, rfl⟩
      rw [f, f, f, f]
      exact ⟨e0, e1, e2, e3⟩
    · have hi2 : i < A.2.1 t := by
        split at hi
        · rename_i e2
          have : i ≠ A.2.1 (A.1.1 - 1) := fun z => e ⟨e2, z⟩
          rw [e2] at hi ⊢
          omega
        · exact hi
      obtain ⟨m1, m2, m3, m4⟩ := k4 i hi2
      have f : ∀ f, (sp_point A y d k p).2.2 t i f = A.2.2 t i f := fun f => if_neg e
      have ne : ∀ j, (5 + 50 * t + 4 * i ≤ j ∧ j ≤ 5 + 50 * t + 4 * i + 3) → g' 541 j = g 541 j := fun j hj => e5 j fun z => by
        have hi3 : i ≤ 11 := by omega
        rcases z with z | z
        · by_cases e2 : t = A.1.1 - 1
          · rw [← e2] at z
            omega
          · have e3 : t + 1 ≤ A.1.1 - 1 := by omega
            omega
        · by_cases e2 : t = A.1.1 - 1
          · exact e ⟨e2, by rw [e2] at hj; omega⟩
          · omega
      rw [f, f, f, f]
      exact ⟨(ne _ (by omega)).trans m1, (ne _ (by omega)).trans m2, (ne _ (by omega)).trans m3, (ne _ (by omega)).trans m4⟩
end
section
/-! A TEXT: the model reads a town -/
theorem mt_rtown {g : aa_G} {b : Nat → Int32} {n p : Nat} {z : Int32} {A : sp_A} (h : tm_ok g b n) (hA : mv0 g A) (hp : p < n) : zz_fin none 168 (0, zz_in [.ref 540] (zz_nl 168), [], aa_H (tm_at g p z)) (mt_res g n (sp_q b n (sp_rtown b n p A))) := by
  have h0 : tm_at g p z 541 0 = Int32.ofNat A.1.1 := hA.1
  have h4 := hA.2.1
  unfold sp_rtown
  refine zz_fin.steps (n := 5) (s' := (7, [some (.ref 540), none], [.int 4, .int ((tm_at g p z) 541 0)], aa_H (tm_at g p z))) rfl ?_
  rw [h0]
  refine zz_fin.ic rfl (fun c1 => ?_) (fun c1 => ?_)
  · have c1 : Int32.ofNat A.1.1 ≠ 4 := of_decide_eq_true c1
    have c1 : A.1.1 < 4 := Decidable.byContradiction fun z => c1 (by rw [show A.1.1 = 4 by omega]; rfl)
    rw [if_neg (by omega)]
    refine zz_fin.steps (n := 5) (s' := (26, [some (.ref 540), none], [.int ((Int32.ofNat p) + 1), .ref 540], aa_H (tm_at g p z))) rfl ?_
    rw [aa_succ]
    refine zz_fin.steps (n := 1) (s' := (29, [some (.ref 540), none], [], aa_H (zz_w (tm_at g p z) 540 5 (Int32.ofNat (p + 1))))) rfl ?_
    rw [tm_inc]
    refine zz_fin.steps (n := 3) (s' := (34, [some (.ref 540), none], [.int 43200, .int (-43200), .ref 540], aa_H (tm_at g (p + 1) z))) rfl ?_
    refine zz_fin.call rfl rfl (Nat.le_of_ble_eq_true rfl) (tm_signed h (p := p + 1) hp) ?_
    rintro v h (⟨f, hf, rfl, g', rfl, hg⟩ | ⟨q, y, hq, rfl, rfl⟩)
    · rw [hf]
      refine zz_fin.if rfl (fun cz => absurd cz (by decide)) (fun cz => ?_)
      refine zz_fin.steps (n := 1) (s' := (41, [some (.ref 540), none], [.int 0], aa_H (g'))) rfl ?_
      exact zz_fin.at (n := 1) rfl (.inl ⟨f, rfl, rfl, g', rfl, mt_fr.rf.bad hA.2.1 hA.1 hg⟩)
    · rw [hq]
      have hqn := sp_num_n hq hp
      refine zz_fin.if rfl (fun cz => ?_) (fun cz => absurd rfl cz)
      have h0 : tm_at g q y 541 0 = Int32.ofNat A.1.1 := hA.1
      refine zz_fin.steps (n := 4) (s' := (48, [some (.ref 540), none], [.int ((tm_at g q y) 541 0)], aa_H (tm_at g q y))) rfl ?_
      rw [h0]
      refine zz_fin.call rfl rfl (Nat.le_of_ble_eq_true rfl) (tab_all (t := A.1.1)) ?_
      rintro v h ⟨rfl, rfl⟩
      refine zz_fin.steps (n := 6) (s' := (61, [some (.ref 540), some (.int (Int32.ofNat (3 + 50 * A.1.1)))], [.int y, .int (Int32.ofNat (3 + 50 * A.1.1)), .ref 541], aa_H (tm_at g q y))) rfl ?_
      refine zz_fin.ias (n := 6384) rfl rfl (zz_inbN (by omega) (by omega)) ?_
      rw [zz_toN (by omega)]
      refine zz_fin.steps (n := 5) (s' := (69, [some (.ref 540), some (.int (Int32.ofNat (3 + 50 * A.1.1)))], [.int ((Int32.ofNat (3 + 50 * A.1.1)) + 1), .ref 541], aa_H (zz_w (tm_at g q y) 541 (3 + 50 * A.1.1) y))) rfl ?_
      rw [aa_succ]
      refine zz_fin.steps (n := 1) (s' := (70, [some (.ref 540), some (.int (Int32.ofNat (3 + 50 * A.1.1)))], [.int 0, .int (Int32.ofNat (3 + 50 * A.1.1 + 1)), .ref 541], aa_H (zz_w (tm_at g q y) 541 (3 + 50 * A.1.1) y))) rfl ?_
      refine zz_fin.ias (n := 6384) rfl rfl (zz_inbN (by omega) (by omega)) ?_
      rw [zz_toN (by omega)]
      refine zz_fin.steps (n := 7) (s' := (80, [some (.ref 540), some (.int (Int32.ofNat (3 + 50 * A.1.1)))], [.int (((zz_w (zz_w (tm_at g q y) 541 (3 + 50 * A.1.1) y) 541 (3 + 50 * A.1.1 + 1) 0) 541 0) + 1), .int 0, .ref 541], aa_H (zz_w (zz_w (tm_at g q y) 541 (3 + 50 * A.1.1) y) 541 (3 + 50 * A.1.1 + 1) 0))) rfl ?_
      rw [show zz_w (zz_w (tm_at g q y) 541 (3 + 50 * A.1.1) y) 541 (3 + 50 * A.1.1 + 1) 0 541 0 = Int32.ofNat A.1.1 by rw [aa_w_ne _ _ (by omega), aa_w_ne _ _ (by omega)]; exact h0, aa_succ]
      refine zz_fin.steps (n := 1) (s' := (81, [some (.ref 540), some (.int (Int32.ofNat (3 + 50 * A.1.1)))], [], aa_H (zz_w (zz_w (zz_w (tm_at g q y) 541 (3 + 50 * A.1.1) y) 541 (3 + 50 * A.1.1 + 1) 0) 541 0 (Int32.ofNat (A.1.1 + 1))))) rfl ?_
      rw [tm_comm _ _ _ (by decide), tm_comm _ _ _ (by decide), tm_comm _ _ _ (by decide)]
      refine zz_fin.steps (n := 2) (s' := (84, [some (.ref 540), some (.int (Int32.ofNat (3 + 50 * A.1.1)))], [.int 59, .ref 540], aa_H (tm_at (zz_w (zz_w (zz_w g 541 (3 + 50 * A.1.1) y) 541 (3 + 50 * A.1.1 + 1) 0) 541 0 (Int32.ofNat (A.1.1 + 1))) q y))) rfl ?_
      refine zz_fin.call rfl rfl (Nat.le_of_ble_eq_true rfl) (mt_end h (((mt_fr.w (by omega)).tr (mt_fr.w (by omega))).tr (mt_fr.w (by omega))) (mv0_town hA c1) hqn.1) ?_
      rintro v h' hres
      rcases hres with ⟨f, k1, rfl, k2⟩ | ⟨q, A', k1, k2, rfl, k3⟩
      · exact zz_fin.at (n := 1) rfl (.inl ⟨f, k1, rfl, k2⟩)
      · exact zz_fin.at (n := 1) rfl (.inr ⟨q, A', k1, k2, rfl, k3⟩)
  · have c1 : Int32.ofNat A.1.1 = 4 := Decidable.byContradiction fun z => c1 (decide_eq_true z)
    have c1 : A.1.1 = 4 := by have e := zz_ofN (n := A.1.1) (by omega); rw [c1, show (4 : Int32).toInt = 4 from rfl] at e; omega
    rw [if_pos c1]
    refine zz_fin.steps (n := 3) (s' := (15, [some (.ref 540), none], [.int (Int32.ofNat p), .ref 540], aa_H (tm_at g p z))) rfl ?_
    refine zz_fin.call rfl rfl (Nat.le_of_ble_eq_true rfl) (tm_fails _) ?_
    rintro v h ⟨rfl, rfl⟩
    exact zz_fin.at (n := 1) rfl (.inl ⟨p, rfl, rfl, _, rfl, mt_fr.rf.bad hA.2.1 hA.1 (tm_bad_of g p z p)⟩)
end
