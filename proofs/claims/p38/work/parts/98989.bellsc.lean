/-! BELLS: bells() of both sides: answer and fault -/
def bl_ans (r : Nat ⊕ Nat) : Int32 := match r with
  | .inl _ => -1
  | .inr N => Int32.ofNat N
def bl_flt (r : Nat ⊕ Nat) : Int32 := match r with
  | .inl f => Int32.ofNat f
  | .inr _ => -1
theorem cb_read {g : aa_G} {b : Nat → Int32} {n : Nat} (h : tc_ok g b n) : zz_fin none 42 (0, zz_in [.ref 454, .ref 36] (zz_nl 42), [], aa_H g) (cb_all (zz_w (zz_w (zz_w g 454 4 (-1)) 36 0 0) 36 1 0) (cl_loop b n (n + 1) 0 0 0)) := by
  have hn := h.2.1
  refine zz_fin.steps (n := 1) (s' := (1, [some (.ref 454), some (.ref 36), none], [.ref 454], aa_H g)) rfl ?_
  refine zz_fin.call rfl rfl (Nat.le_of_ble_eq_true rfl) (tc_rew h) ?_
  rintro v h ⟨rfl, rfl⟩
  refine zz_fin.steps (n := 1) (s' := (5, [some (.ref 454), some (.ref 36), none], [.ref 36], aa_H (tc_at (zz_w g 454 4 (-1)) b n 0))) rfl ?_
  refine zz_fin.call (ψ := fun v h' => v = none ∧ h' = aa_H (zz_w (zz_w (tc_at (zz_w g 454 4 (-1)) b n 0) 36 0 0) 36 1 0)) rfl rfl (Nat.le_of_ble_eq_true rfl) (zz_fin.at (n := 7) rfl ⟨rfl, rfl⟩) ?_
  rintro v h' ⟨rfl, rfl⟩
  rw [tc_comm _ _ _ _ (by decide), tc_comm _ _ _ _ (by decide)]
  refine zz_fin.steps (n := 2) (s' := (10, [some (.ref 454), some (.ref 36), some (.int (Int32.ofNat 0))], [], aa_H (tc_at (zz_w (zz_w (zz_w g 454 4 (-1)) 36 0 0) 36 1 0) b n 0))) rfl ?_
  exact cb_loop (n + 1) 0 0 0 0 _ (by omega) (Nat.le_refl _) (Nat.zero_le _) (by omega) (by omega) ⟨(aa_w_ne _ _ (by omega)).trans ((aa_w_ne _ _ (by omega)).trans ((aa_w_ne _ _ (by omega)).trans h.1)), h.2.1, fun j hj => (aa_w_ne _ _ (by omega)).trans ((aa_w_ne _ _ (by omega)).trans ((aa_w_ne _ _ (by omega)).trans (h.2.2 j hj)))⟩ ((aa_w_ne _ _ (by omega)).trans (aa_w_at _ _ _ _)) (aa_w_at _ _ _ _)
theorem cb_bells {g : aa_G} {b : Nat → Int32} {n e c : Nat} (h : tc_ok g b n) (he : e < 12) (hc : c ≤ 12) (h0 : g 66 0 = Int32.ofNat c) (h1 : g 66 1 = Int32.ofNat e) : zz_fin none 41 (0, zz_in [.ref 1] (zz_nl 41), [], aa_H g) (fun v h => ∃ g', h = aa_H g' ∧ v = some (.int (bl_ans (cl_loop b n (n + 1) 0 0 0))) ∧ g' 1 13 = bl_flt (cl_loop b n (n + 1) 0 0 0) ∧ g' 454 0 = 0) := by
  refine zz_fin.steps (n := 4) (s' := (8, [some (.ref 1), none], [.ref 2, .ref 34], aa_H g)) rfl ?_
  refine zz_fin.call rfl rfl (Nat.le_of_ble_eq_true rfl) (cp_state cs_ok_34 cs_ok_2 (show 34 + 32 ≤ 2 ∨ 2 + 32 ≤ 34 by omega)) ?_
  rintro v h' ⟨rfl, g1, rfl, k1, k2⟩
  have k2 : cp_fr g g1 34 65 := k2
  have ht1 : tc_ok g1 b n := ⟨(k2 454 0 (by omega)).trans h.1, h.2.1, fun j hj => (k2 455 j (by omega)).trans (h.2.2 j hj)⟩
  refine zz_fin.steps (n := 5) (s' := (22, [some (.ref 1), none], [.ref 36, .ref 454], aa_H g1)) rfl ?_
  refine zz_fin.call rfl rfl (Nat.le_of_ble_eq_true rfl) (cb_read ht1) ?_
  rintro v h' (⟨f, hs, rfl, g2, rfl, b1, b2⟩ | ⟨N, hs, hN, rfl, g2, rfl, hr⟩)
  · refine zz_fin.steps (n := 2) (s' := (27, [some (.ref 1), some (.int (-1))], [.ref 1], aa_H g2)) rfl ?_
    refine zz_fin.call rfl rfl (Nat.le_of_ble_eq_true rfl) (ct_eor) ?_
    rintro v h ⟨rfl, rfl⟩
    refine zz_fin.steps (n := 2) (s' := (32, [some (.ref 1), some (.int (-1))], [.int (-1), .int (-1)], aa_H (zz_w (zz_w g2 1 13 (g2 454 4)) 454 0 0))) rfl ?_
    refine zz_fin.ic rfl (fun cz => ?_) (fun cz => absurd rfl cz)
    rw [hs]
    exact zz_fin.at (n := 2) rfl ⟨_, rfl, rfl, (aa_w_ne _ _ (by omega)).trans ((aa_w_at _ _ _ _).trans b2), aa_w_at _ _ _ _⟩
  · refine zz_fin.steps (n := 2) (s' := (27, [some (.ref 1), some (.int (Int32.ofNat N))], [.ref 1], aa_H g2)) rfl ?_
    refine zz_fin.call rfl rfl (Nat.le_of_ble_eq_true rfl) (ct_eor) ?_
    rintro v h ⟨rfl, rfl⟩
    refine zz_fin.steps (n := 2) (s' := (32, [some (.ref 1), some (.int (Int32.ofNat N))], [.int (-1), .int (Int32.ofNat N)], aa_H (zz_w (zz_w g2 1 13 (g2 454 4)) 454 0 0))) rfl ?_
    have hne : Int32.ofNat N ≠ -1 := fun z => by
      have e := zz_ofN (n := N) (by omega)
      rw [z, show (-1 : Int32).toInt = -1 from rfl] at e
      omega
    refine zz_fin.ic rfl (fun cz => absurd (of_decide_eq_true cz) hne) (fun cz => ?_)
    have fr : ∀ k j, ¬ ((34 ≤ k ∧ k ≤ 65)) → k ≠ 454 → ¬ (k = 1 ∧ j = 13) → (zz_w (zz_w g2 1 13 (g2 454 4)) 454 0 0) k j = g k j := fun k j e1 e2 e3 => by
      rw [aa_w_ne _ _ (by omega), aa_w_ne _ _ (by omega), hr k j (by omega) (by omega), aa_w_ne _ _ (by omega), aa_w_ne _ _ (by omega), aa_w_ne _ _ (by omega)]
      exact k2 k j (by omega)
    refine zz_fin.steps (n := 3) (s' := (40, [some (.ref 1), some (.int (Int32.ofNat N))], [.ref 34, .ref 1], aa_H (zz_w (zz_w g2 1 13 (g2 454 4)) 454 0 0))) rfl ?_
    have hG13 : (zz_w (zz_w g2 1 13 (g2 454 4)) 454 0 0) 1 13 = -1 := by
      rw [aa_w_ne _ _ (by omega), aa_w_at, hr 454 4 (by omega) (by omega), aa_w_ne _ _ (by omega), aa_w_ne _ _ (by omega), aa_w_at]
    have hG0 : (zz_w (zz_w g2 1 13 (g2 454 4)) 454 0 0) 454 0 = 0 := aa_w_at _ _ _ _
    generalize hG : zz_w (zz_w g2 1 13 (g2 454 4)) 454 0 0 = G3 at fr hG13 hG0 ⊢
    refine zz_fin.call rfl rfl (Nat.le_of_ble_eq_true rfl) (cd_adopt cs_ok_34 (by omega) he hc ((fr 66 0 (by omega) (by omega) (by omega)).trans h0) ((fr 66 1 (by omega) (by omega) (by omega)).trans h1)) ?_
    rintro v h' ⟨rfl, g4, g5, rfl, ⟨p1, p2, p3, p4⟩, q1, q2⟩
    have s4 : ∀ k j, ¬ (32 * e + 68 ≤ k ∧ k ≤ 32 * e + 99) → ¬ (k = 66 ∧ j ≤ 1) → g4 k j = G3 k j := p4
    rw [hs]
    exact zz_fin.at (n := 2) rfl ⟨g5, rfl, rfl, (q2 1 13 (by omega)).trans ((s4 1 13 (by omega) (by omega)).trans hG13), (q2 454 0 (by omega)).trans ((s4 454 0 (by omega) (by omega)).trans hG0)⟩
