/-! READING NUMBERS: the model's side -/
/-- the model's tape: its bytes -/
def tm_ok (g : aa_G) (b : Nat → Int32) (n : Nat) : Prop := g 540 4 = Int32.ofNat n ∧ n ≤ 500 ∧ ∀ j, j < n → g 543 j &&& 255 = b j
/-- the model's tape stands at a place; the number that was read -/
def tm_at (g : aa_G) (p : Nat) (z : Int32) : aa_G := zz_w (zz_w g 540 5 (Int32.ofNat p)) 540 7 z
def tm_bad (g : aa_G) (f : Nat) (g' : aa_G) : Prop := (∀ k j, ¬ (k = 540 ∧ 5 ≤ j ∧ j ≤ 7) → g' k j = g k j) ∧ g' 540 6 = Int32.ofNat f
theorem tm_over5 (g : aa_G) (p : Nat) (z a : Int32) : zz_w (tm_at g p z) 540 5 a = zz_w (zz_w g 540 5 a) 540 7 z := by
  unfold tm_at
  rw [zz_w_comm _ (k := 540) (j := 7) (a := 540) (b := 5) _ _ (by decide), zz_w_ww]
theorem tm_over7 (g : aa_G) (p : Nat) (z a : Int32) : zz_w (tm_at g p z) 540 7 a = tm_at g p a := zz_w_ww _ _ _ _ _
theorem tm_bad_of (g : aa_G) (p : Nat) (z : Int32) (f : Nat) : tm_bad g f (zz_w (tm_at g p z) 540 6 (Int32.ofNat f)) := by
  refine ⟨fun k j hkj => ?_, aa_w_at _ _ _ _⟩
  unfold tm_at
  rw [aa_w_ne _ _ (by omega), aa_w_ne _ _ (by omega), aa_w_ne _ _ (by omega)]
theorem tm_here {g : aa_G} {b : Nat → Int32} {n p : Nat} {z : Int32} (h : tm_ok g b n) (hp : p ≤ 500) : zz_fin none 167 (0, zz_in [.ref 540] (zz_nl 167), [], aa_H (tm_at g p z)) (fun v h => v = some (.int (sp_hb b n p)) ∧ h = aa_H (tm_at g p z)) := by
  obtain ⟨h0, hn, hb⟩ := h
  refine zz_fin.steps (n := 4) (s' := (8, [some (.ref 540)], [.int ((tm_at g p z) 540 4), .int (Int32.ofNat p)], aa_H (tm_at g p z))) rfl ?_
  have h0' : tm_at g p z 540 4 = Int32.ofNat n := h0
  rw [h0']
  refine zz_fin.ic rfl (fun c1 => ?_) (fun c1 => ?_)
  · have c1 : (Int32.ofNat n).toInt ≤ (Int32.ofNat p).toInt := aa_le32.mp (of_decide_eq_true c1)
    rw [zz_ofN (by omega), zz_ofN (by omega)] at c1
    refine zz_fin.steps (n := 1) (s' := (28, [some (.ref 540)], [.int (-1)], aa_H (tm_at g p z))) rfl ?_
    exact zz_fin.at (n := 1) rfl ⟨by rw [show sp_hb b n p = -1 from if_neg (by omega)], rfl⟩
  · have c1 : ¬ (Int32.ofNat n).toInt ≤ (Int32.ofNat p).toInt := fun z => c1 (decide_eq_true (aa_le32.mpr z))
    rw [zz_ofN (by omega), zz_ofN (by omega)] at c1
    refine zz_fin.steps (n := 4) (s' := (19, [some (.ref 540)], [.int (Int32.ofNat p), .ref 543], aa_H (tm_at g p z))) rfl ?_
    refine zz_fin.bal (n := 500) rfl rfl rfl (zz_inbN (by omega) (by omega)) ?_
    rw [zz_toN (by omega)]
    have hb1 : tm_at g p z 543 p &&& 255 = sp_hb b n p := (hb p (by omega)).trans (if_pos (by omega)).symm
    refine zz_fin.steps (n := 3) (s' := (28, [some (.ref 540)], [.int (tm_at g p z 543 p &&& 255)], aa_H (tm_at g p z))) rfl ?_
    exact zz_fin.at (n := 1) rfl ⟨by rw [hb1], rfl⟩
theorem tm_fig (c : Int32) {h0 : zz_H} : zz_fin none 172 (0, zz_in [.int c] (zz_nl 172), [], h0) (fun v h => ((v = some (.int 1) ∧ sp_dg c = true) ∨ (v = some (.int 0) ∧ sp_dg c = false)) ∧ h = h0) := by
  refine zz_fin.steps (n := 2) (s' := (3, [some (.int c)], [.int 48, .int c], h0)) rfl ?_
  refine zz_fin.ic rfl (fun c1 => ?_) (fun c1 => ?_)
  · have c1 : ¬ (48 : Int32) ≤ c := Int32.not_le.mpr (of_decide_eq_true c1)
    refine zz_fin.steps (n := 1) (s' := (17, [some (.int c)], [.int 0], h0)) rfl ?_
    exact zz_fin.at (n := 1) rfl ⟨.inr ⟨rfl, by unfold sp_dg; rw [decide_eq_false c1]; rfl⟩, rfl⟩
  · have c1 : (48 : Int32) ≤ c := Int32.not_lt.mp fun z => c1 (decide_eq_true z)
    refine zz_fin.steps (n := 2) (s' := (9, [some (.int c)], [.int 57, .int c], h0)) rfl ?_
    refine zz_fin.ic rfl (fun c2 => ?_) (fun c2 => ?_)
    · have c2 : ¬ c ≤ (57 : Int32) := Int32.not_le.mpr (of_decide_eq_true c2)
      refine zz_fin.steps (n := 1) (s' := (17, [some (.int c)], [.int 0], h0)) rfl ?_
      exact zz_fin.at (n := 1) rfl ⟨.inr ⟨rfl, by unfold sp_dg; rw [decide_eq_false c2, Bool.and_false]⟩, rfl⟩
    · have c2 : c ≤ (57 : Int32) := Int32.not_lt.mp fun z => c2 (decide_eq_true z)
      refine zz_fin.steps (n := 2) (s' := (17, [some (.int c)], [.int 1], h0)) rfl ?_
      exact zz_fin.at (n := 1) rfl ⟨.inl ⟨rfl, by unfold sp_dg; rw [decide_eq_true c1, decide_eq_true c2]; rfl⟩, rfl⟩
theorem tm_fails {g : aa_G} (c : Int32) : zz_fin none 169 (0, zz_in [.ref 540, .int c] (zz_nl 169), [], aa_H g) (fun v h => v = some (.int 0) ∧ h = aa_H (zz_w g 540 6 c)) := by
  refine zz_fin.steps (n := 4) (s' := (6, [some (.ref 540), some (.int c)], [.int 0], aa_H (zz_w g 540 6 c))) rfl ?_
  exact zz_fin.at (n := 1) rfl ⟨rfl, rfl⟩
theorem tm_takes {g : aa_G} {b : Nat → Int32} {n p : Nat} {z : Int32} (h : tm_ok g b n) (hp : p ≤ n) {c : Int32} (hc : c ≠ -1) : zz_fin none 173 (0, zz_in [.ref 540, .int c] (zz_nl 173), [], aa_H (tm_at g p z)) (fun v h => (v = some (.int 1) ∧ sp_hb b n p = c ∧ p < n ∧ h = aa_H (tm_at g (p + 1) z)) ∨ (v = some (.int 0) ∧ sp_hb b n p ≠ c ∧ ∃ g', h = aa_H g' ∧ tm_bad g p g')) := by
  have hn := h.2.1
  refine zz_fin.steps (n := 1) (s' := (1, [some (.ref 540), some (.int c)], [.ref 540], aa_H (tm_at g p z))) rfl ?_
  refine zz_fin.call rfl rfl (Nat.le_of_ble_eq_true rfl) (tm_here h (by omega)) ?_
  rintro v h ⟨rfl, rfl⟩
  refine zz_fin.steps (n := 1) (s' := (5, [some (.ref 540), some (.int c)], [.int c, .int (sp_hb b n p)], aa_H (tm_at g p z))) rfl ?_
  refine zz_fin.ic rfl (fun c1 => ?_) (fun c1 => ?_)
  · have c1 : sp_hb b n p = c := of_decide_eq_true c1
    have hp1 : p < n := Decidable.byContradiction fun z => hc (by rw [← c1]; exact if_neg z)
    refine zz_fin.steps (n := 5) (s' := (24, [some (.ref 540), some (.int c)], [.int ((Int32.ofNat p) + 1), .ref 540], aa_H (tm_at g p z))) rfl ?_
    rw [aa_succ]
    refine zz_fin.steps (n := 2) (s' := (28, [some (.ref 540), some (.int c)], [.int 1], aa_H (zz_w (tm_at g p z) 540 5 (Int32.ofNat (p + 1))))) rfl ?_
    exact zz_fin.at (n := 1) rfl (.inl ⟨rfl, c1, hp1, by rw [tm_over5]; rfl⟩)
  · have c1 : sp_hb b n p ≠ c := fun z => c1 (decide_eq_true z)
    refine zz_fin.steps (n := 3) (s' := (13, [some (.ref 540), some (.int c)], [.int (Int32.ofNat p), .ref 540], aa_H (tm_at g p z))) rfl ?_
    refine zz_fin.call rfl rfl (Nat.le_of_ble_eq_true rfl) (tm_fails _) ?_
    rintro v h ⟨rfl, rfl⟩
    exact zz_fin.at (n := 1) rfl (.inr ⟨rfl, c1, _, rfl, tm_bad_of g p z p⟩)
theorem tm_loop {g : aa_G} {b : Nat → Int32} {n a : Nat} (h : tm_ok g b n) {φ : Option Value → zz_H → Prop} : ∀ (k p : Nat) (z : Int32), p + k = a + 5 → a ≤ p → p ≤ n → zz_fin none 171 (81, [some (.ref 540), some (.int (Int32.ofNat a))], [], aa_H (tm_at g (sp_run b n k p z).1 (sp_run b n k p z).2)) φ → zz_fin none 171 (29, [some (.ref 540), some (.int (Int32.ofNat a))], [], aa_H (tm_at g p z)) φ := by
  have hn := h.2.1
  intro k
  induction k with
  | zero =>
    intro p z hk ha hpn k0
    refine zz_fin.steps (n := 1) (s' := (30, [some (.ref 540), some (.int (Int32.ofNat a))], [.ref 540], aa_H (tm_at g p z))) rfl ?_
    refine zz_fin.call rfl rfl (Nat.le_of_ble_eq_true rfl) (tm_here h (by omega)) ?_
    rintro v h ⟨rfl, rfl⟩
    refine zz_fin.call rfl rfl (Nat.le_of_ble_eq_true rfl) (tm_fig _) ?_
    rintro v h ⟨⟨rfl, hd⟩ | ⟨rfl, hd⟩, rfl⟩
    · refine zz_fin.if rfl (fun c => zc_no1 c) (fun c => ?_)
      refine zz_fin.steps (n := 5) (s' := (46, [some (.ref 540), some (.int (Int32.ofNat a))], [.int 5, .int ((Int32.ofNat p) - (Int32.ofNat a))], aa_H (tm_at g p z))) rfl ?_
      refine zz_fin.ic rfl (fun c1 => ?_) (fun c1 => ?_)
      · exact k0
      · refine absurd (decide_eq_true (aa_le32.mpr ?_)) c1
        rw [aa_sub32 (by rw [zz_ofN (by omega), zz_ofN (by omega)]; omega) (by rw [zz_ofN (by omega), zz_ofN (by omega)]; omega), zz_ofN (by omega), zz_ofN (by omega), show (5 : Int32).toInt = 5 from rfl]
        omega
    · refine zz_fin.if rfl (fun c => ?_) (fun c => zc_no0 c)
      exact k0
  | succ k ih =>
    intro p z hk ha hpn k0
    refine zz_fin.steps (n := 1) (s' := (30, [some (.ref 540), some (.int (Int32.ofNat a))], [.ref 540], aa_H (tm_at g p z))) rfl ?_
    refine zz_fin.call rfl rfl (Nat.le_of_ble_eq_true rfl) (tm_here h (by omega)) ?_
    rintro v h ⟨rfl, rfl⟩
    refine zz_fin.call rfl rfl (Nat.le_of_ble_eq_true rfl) (tm_fig _) ?_
    rintro v h ⟨⟨rfl, hd⟩ | ⟨rfl, hd⟩, rfl⟩
    · rw [show sp_run b n (k + 1) p z = sp_run b n k (p + 1) (z * 10 + sp_hb b n p - 48) by rw [sp_run, if_pos hd]] at k0
      refine zz_fin.if rfl (fun c => zc_no1 c) (fun c => ?_)
      refine zz_fin.steps (n := 5) (s' := (46, [some (.ref 540), some (.int (Int32.ofNat a))], [.int 5, .int ((Int32.ofNat p) - (Int32.ofNat a))], aa_H (tm_at g p z))) rfl ?_
      refine zz_fin.ic rfl (fun c1 => ?_) (fun c1 => ?_)
      · have c1 : (5 : Int32).toInt ≤ (Int32.ofNat p - Int32.ofNat a).toInt := aa_le32.mp (of_decide_eq_true c1)
        rw [aa_sub32 (by rw [zz_ofN (by omega), zz_ofN (by omega)]; omega) (by rw [zz_ofN (by omega), zz_ofN (by omega)]; omega), zz_ofN (by omega), zz_ofN (by omega), show (5 : Int32).toInt = 5 from rfl] at c1
        omega
      · refine zz_fin.steps (n := 6) (s' := (58, [some (.ref 540), some (.int (Int32.ofNat a))], [.ref 540, .int (10 * z), .ref 540], aa_H (tm_at g p z))) rfl ?_
        refine zz_fin.call rfl rfl (Nat.le_of_ble_eq_true rfl) (tm_here h (by omega)) ?_
        rintro v h ⟨rfl, rfl⟩
        refine zz_fin.steps (n := 9) (s' := (75, [some (.ref 540), some (.int (Int32.ofNat a))], [.int ((Int32.ofNat p) + 1), .ref 540], aa_H (zz_w (tm_at g p z) 540 7 (((10 * z) + (sp_hb b n p)) - 48)))) rfl ?_
        rw [aa_succ]
        refine zz_fin.steps (n := 2) (s' := (29, [some (.ref 540), some (.int (Int32.ofNat a))], [], aa_H (zz_w (zz_w (tm_at g p z) 540 7 (((10 * z) + (sp_hb b n p)) - 48)) 540 5 (Int32.ofNat (p + 1))))) rfl ?_
        have e : zz_w (zz_w (tm_at g p z) 540 7 (10 * z + sp_hb b n p - 48)) 540 5 (Int32.ofNat (p + 1)) = tm_at g (p + 1) (z * 10 + sp_hb b n p - 48) := by
          rw [tm_over7, tm_over5, Int32.mul_comm 10 z]
          rfl
        rw [e]
        exact ih (p + 1) _ (by omega) (by omega) (sp_dg_lt hd) k0
    · rw [show sp_run b n (k + 1) p z = (p, z) by rw [sp_run, if_neg (by rw [hd]; decide)]] at k0
      refine zz_fin.if rfl (fun c => ?_) (fun c => zc_no0 c)
      exact k0
/-- what readDigits answers -/
theorem tm_digits {g : aa_G} {b : Nat → Int32} {n p : Nat} {z : Int32} (h : tm_ok g b n) (hp : p ≤ n) : zz_fin none 171 (0, zz_in [.ref 540] (zz_nl 171), [], aa_H (tm_at g p z)) (fun v h => (v = some (.int 0) ∧ ((sp_run b n 5 p 0).1 = p ∨ sp_dg (sp_hb b n (sp_run b n 5 p 0).1) = true) ∧ ∃ g', h = aa_H g' ∧ tm_bad g (sp_run b n 5 p 0).1 g') ∨ (v = some (.int 1) ∧ ¬ ((sp_run b n 5 p 0).1 = p ∨ sp_dg (sp_hb b n (sp_run b n 5 p 0).1) = true) ∧ h = aa_H (tm_at g (sp_run b n 5 p 0).1 (sp_run b n 5 p 0).2))) := by
  have hn := h.2.1
  refine zz_fin.steps (n := 1) (s' := (1, [some (.ref 540), none], [.ref 540], aa_H (tm_at g p z))) rfl ?_
  refine zz_fin.call rfl rfl (Nat.le_of_ble_eq_true rfl) (tm_here h (by omega)) ?_
  rintro v h ⟨rfl, rfl⟩
  refine zz_fin.call rfl rfl (Nat.le_of_ble_eq_true rfl) (tm_fig _) ?_
  rintro v h ⟨⟨rfl, hd⟩ | ⟨rfl, hd⟩, rfl⟩
  · refine zz_fin.if rfl (fun c => ?_) (fun c => absurd rfl c)
    refine zz_fin.steps (n := 6) (s' := (29, [some (.ref 540), some (.int (Int32.ofNat p))], [], aa_H (zz_w (tm_at g p z) 540 7 0))) rfl ?_
    rw [tm_over7]
    refine tm_loop h 5 p 0 (by omega) (Nat.le_refl p) hp ?_
    have hr := sp_run_n b n 5 p 0 hp
    have hne : (sp_run b n 5 p 0).1 ≠ p := by
      have := sp_run_le b n 4 (p + 1) (0 * 10 + sp_hb b n p - 48)
      rw [show sp_run b n 5 p 0 = sp_run b n 4 (p + 1) (0 * 10 + sp_hb b n p - 48) by rw [sp_run, if_pos hd]]
      omega
    generalize sp_run b n 5 p 0 = r at hr hne ⊢
    obtain ⟨q, y⟩ := r
    have hr : q ≤ n := hr
    have hne : q ≠ p := hne
    show zz_fin none 171 (81, [some (.ref 540), some (.int (Int32.ofNat p))], [], aa_H (tm_at g q y)) _
    refine zz_fin.steps (n := 1) (s' := (82, [some (.ref 540), some (.int (Int32.ofNat p))], [.ref 540], aa_H (tm_at g q y))) rfl ?_
    refine zz_fin.call rfl rfl (Nat.le_of_ble_eq_true rfl) (tm_here h (by omega)) ?_
    rintro v h ⟨rfl, rfl⟩
    refine zz_fin.call rfl rfl (Nat.le_of_ble_eq_true rfl) (tm_fig _) ?_
    rintro v h ⟨⟨rfl, hd⟩ | ⟨rfl, hd⟩, rfl⟩
    · refine zz_fin.if rfl (fun c => zc_no1 c) (fun c => ?_)
      refine zz_fin.steps (n := 3) (s' := (96, [some (.ref 540), some (.int (Int32.ofNat p))], [.int (Int32.ofNat q), .ref 540], aa_H (tm_at g q y))) rfl ?_
      refine zz_fin.call rfl rfl (Nat.le_of_ble_eq_true rfl) (tm_fails _) ?_
      rintro v h ⟨rfl, rfl⟩
      refine zz_fin.if rfl (fun c => ?_) (fun c => zc_no0 c)
      refine zz_fin.steps (n := 1) (s' := (107, [some (.ref 540), some (.int (Int32.ofNat p))], [.int 0], aa_H (zz_w (tm_at g q y) 540 6 (Int32.ofNat q)))) rfl ?_
      exact zz_fin.at (n := 1) rfl (.inl ⟨rfl, .inr hd, _, rfl, tm_bad_of g q y q⟩)
    · refine zz_fin.if rfl (fun c => ?_) (fun c => zc_no0 c)
      refine zz_fin.steps (n := 2) (s' := (107, [some (.ref 540), some (.int (Int32.ofNat p))], [.int 1], aa_H (tm_at g q y))) rfl ?_
      exact zz_fin.at (n := 1) rfl (.inr ⟨rfl, (fun e => e.elim hne fun e => (by have e : sp_dg (sp_hb b n q) = true := e; rw [hd] at e; cases e)), rfl⟩)
  · have e : sp_run b n 5 p 0 = (p, 0) := by rw [sp_run, if_neg (by rw [hd]; decide)]
    rw [e]
    refine zz_fin.if rfl (fun c => absurd c (by decide)) (fun c => ?_)
    refine zz_fin.steps (n := 3) (s' := (15, [some (.ref 540), none], [.int (Int32.ofNat p), .ref 540], aa_H (tm_at g p z))) rfl ?_
    refine zz_fin.call rfl rfl (Nat.le_of_ble_eq_true rfl) (tm_fails _) ?_
    rintro v h ⟨rfl, rfl⟩
    exact zz_fin.at (n := 1) rfl (.inl ⟨rfl, .inl rfl, _, rfl, tm_bad_of g p z p⟩)
