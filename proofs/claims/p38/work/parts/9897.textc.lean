/-! A TEXT: the class's text, whole -/
theorem cvs_cp {g g' : aa_G} {S F : Nat} {A : sp_A} (h : cvs g F A) (hc : cp_st g g' S F) : cvs g' S A := by
  obtain ⟨h1, h2, h3⟩ := h
  obtain ⟨c1, -, c2⟩ := hc
  refine ⟨(c1 0 (by omega)).trans h1, h2, fun t ht => ?_⟩
  obtain ⟨k1, k2, k3, k4⟩ := h3 t ht
  obtain ⟨d1, d2⟩ := c2 t (by omega)
  refine ⟨(d1 0 (by omega)).trans k1, (d1 1 (by omega)).trans k2, k3, fun i hi => ?_⟩
  obtain ⟨m1, m2, m3, m4⟩ := k4 i hi
  exact ⟨(d2 1 i (by omega) (by omega) (by omega)).trans m1, (d2 2 i (by omega) (by omega) (by omega)).trans m2, (d2 3 i (by omega) (by omega) (by omega)).trans m3, (d2 4 i (by omega) (by omega) (by omega)).trans m4⟩
/-- bells and parts of a state stay -/
def cp_rest (g g' : aa_G) (S F : Nat) : Prop := g' S 1 = g F 1 ∧ cp_bl g g' (S + 2) (F + 2)
/-- what text leaves alone -/
def ct_keep (g g' : aa_G) (e : Nat) : Prop := ∀ k j, ¬ (2 ≤ k ∧ k ≤ 65) → ¬ (32 * e + 68 ≤ k ∧ k ≤ 32 * e + 99) → ¬ (k = 66 ∧ j ≤ 1) → k ≠ 454 → ¬ (k = 1 ∧ j = 13) → g' k j = g k j
theorem ct_text {g : aa_G} {b : Nat → Int32} {n e c : Nat} {A : sp_A} (h : tc_ok g b n) (hA : cvs g 2 A) (he : e < 12) (hc : c ≤ 12) (h0 : g 66 0 = Int32.ofNat c) (h1 : g 66 1 = Int32.ofNat e) : zz_fin none 15 (0, zz_in [.ref 1] (zz_nl 15), [], aa_H g) (fun v h => ∃ g', h = aa_H g' ∧ g' 454 0 = 0 ∧ ct_keep g g' e ∧ ((∃ f, sp_items b n (n + 1) 0 0 A = .inl f ∧ v = some (.int (-1)) ∧ g' 1 13 = Int32.ofNat f ∧ (∀ k j, ¬ (34 ≤ k ∧ k ≤ 65) → k ≠ 454 → ¬ (k = 1 ∧ j = 13) → g' k j = g k j)) ∨ (∃ c' A', sp_items b n (n + 1) 0 0 A = .inr (c', A') ∧ v = some (.int (Int32.ofNat c')) ∧ g' 1 13 = -1 ∧ cvs g' 2 A' ∧ cp_rest g g' 2 2 ∧ cp_st g g' (32 * e + 68) 2 ∧ g' 66 0 = Int32.ofNat (min (c + 1) 12) ∧ g' 66 1 = Int32.ofNat ((e + 1) % 12)))) := by
  refine zz_fin.steps (n := 4) (s' := (8, [some (.ref 1), none], [.ref 2, .ref 34], aa_H g)) rfl ?_
  refine zz_fin.call rfl rfl (Nat.le_of_ble_eq_true rfl) (cp_state cs_ok_34 cs_ok_2 (show 34 + 32 ≤ 2 ∨ 2 + 32 ≤ 34 by omega)) ?_
  rintro v h' ⟨rfl, g1, rfl, k1, k2⟩
  have k1 : cp_st g g1 34 2 := k1
  have k2 : cp_fr g g1 34 65 := k2
  have hA1 : cvs g1 34 A := cvs_cp hA k1
  have ht1 : tc_ok g1 b n := ⟨(k2 454 0 (by omega)).trans h.1, h.2.1, fun j hj => (k2 455 j (by omega)).trans (h.2.2 j hj)⟩
  refine zz_fin.steps (n := 4) (s' := (19, [some (.ref 1), none], [.ref 34, .ref 454], aa_H g1)) rfl ?_
  refine zz_fin.call rfl rfl (Nat.le_of_ble_eq_true rfl) (ct_read ht1 hA1) ?_
  rintro v h' hres
  rcases hres with ⟨f, hs, rfl, g2, rfl, b1, b2⟩ | ⟨c', A', hs, hc5, rfl, g2, rfl, hf, hA2⟩
  · refine zz_fin.steps (n := 2) (s' := (24, [some (.ref 1), some (.int (-1))], [.ref 1], aa_H g2)) rfl ?_
    refine zz_fin.call rfl rfl (Nat.le_of_ble_eq_true rfl) (ct_eor) ?_
    rintro v h ⟨rfl, rfl⟩
    refine zz_fin.steps (n := 2) (s' := (29, [some (.ref 1), some (.int (-1))], [.int (-1), .int (-1)], aa_H (zz_w (zz_w g2 1 13 (g2 454 4)) 454 0 0))) rfl ?_
    refine zz_fin.ic rfl (fun cz => ?_) (fun cz => absurd rfl cz)
    refine zz_fin.steps (n := 1) (s' := (41, [some (.ref 1), some (.int (-1))], [.int (-1)], aa_H (zz_w (zz_w g2 1 13 (g2 454 4)) 454 0 0))) rfl ?_
    refine zz_fin.at (n := 1) rfl ⟨_, rfl, aa_w_at _ _ _ _, fun k j e1 e2 e3 e4 e5 => ?_, .inl ⟨f, hs, rfl, ?_, fun k j e1 e2 e3 => ?_⟩⟩
    · rw [aa_w_ne _ _ (by omega), aa_w_ne _ _ (by omega), b1 k j (by omega) (by omega), aa_w_ne _ _ (by omega)]
      exact k2 k j (by omega)
    · rw [aa_w_ne _ _ (by omega), aa_w_at]
      exact b2
    · rw [aa_w_ne _ _ (by omega), aa_w_ne _ _ (by omega), b1 k j (by omega) (by omega), aa_w_ne _ _ (by omega)]
      exact k2 k j (by omega)
  · refine zz_fin.steps (n := 2) (s' := (24, [some (.ref 1), some (.int (Int32.ofNat c'))], [.ref 1], aa_H g2)) rfl ?_
    refine zz_fin.call rfl rfl (Nat.le_of_ble_eq_true rfl) (ct_eor) ?_
    rintro v h ⟨rfl, rfl⟩
    refine zz_fin.steps (n := 2) (s' := (29, [some (.ref 1), some (.int (Int32.ofNat c'))], [.int (-1), .int (Int32.ofNat c')], aa_H (zz_w (zz_w g2 1 13 (g2 454 4)) 454 0 0))) rfl ?_
    have hne : Int32.ofNat c' ≠ -1 := fun z => by
      have e := zz_ofN (n := c') (by omega)
      rw [z, show (-1 : Int32).toInt = -1 from rfl] at e
      omega
    refine zz_fin.ic rfl (fun cz => absurd (of_decide_eq_true cz) hne) (fun cz => ?_)
    have fr : ∀ k j, ¬ ((34 ≤ k ∧ k ≤ 65)) → k ≠ 454 → ¬ (k = 1 ∧ j = 13) → (zz_w (zz_w g2 1 13 (g2 454 4)) 454 0 0) k j = g k j := fun k j e1 e2 e3 => by
      rw [aa_w_ne _ _ (by omega), aa_w_ne _ _ (by omega), hf k j (by omega) (by omega), aa_w_ne _ _ (by omega)]
      exact k2 k j (by omega)
    have hA3 : cvs (zz_w (zz_w g2 1 13 (g2 454 4)) 454 0 0) 34 A' := cvs_of hA2 fun k j a1 a2 => (aa_w_ne _ _ (by omega)).trans (aa_w_ne _ _ (by omega))
    have df : ∀ k j, 34 ≤ k → k < 46 → ¬ (k = 34 ∧ j = 0) → (zz_w (zz_w g2 1 13 (g2 454 4)) 454 0 0) k j = g1 k j := fun k j a1 a2 a3 => by
      rw [aa_w_ne _ _ (by omega), aa_w_ne _ _ (by omega), hf k j (by omega) (by omega), aa_w_ne _ _ (by omega)]
    refine zz_fin.steps (n := 3) (s' := (37, [some (.ref 1), some (.int (Int32.ofNat c'))], [.ref 34, .ref 1], aa_H (zz_w (zz_w g2 1 13 (g2 454 4)) 454 0 0))) rfl ?_
    generalize hG : zz_w (zz_w g2 1 13 (g2 454 4)) 454 0 0 = G3 at fr hA3 df ⊢
    have hG13 : G3 1 13 = -1 := by
      rw [← hG, aa_w_ne _ _ (by omega), aa_w_at, hf 454 4 (by omega) (by omega), aa_w_at]
    have hG0 : G3 454 0 = 0 := by rw [← hG, aa_w_at]
    refine zz_fin.call rfl rfl (Nat.le_of_ble_eq_true rfl) (cd_adopt cs_ok_34 (by omega) he hc ((fr 66 0 (by omega) (by omega) (by omega)).trans h0) ((fr 66 1 (by omega) (by omega) (by omega)).trans h1)) ?_
    rintro v h' ⟨rfl, g4, g5, rfl, ⟨p1, p2, p3, p4⟩, q1, q2⟩
    have s4 : ∀ k j, ¬ (32 * e + 68 ≤ k ∧ k ≤ 32 * e + 99) → ¬ (k = 66 ∧ j ≤ 1) → g4 k j = G3 k j := p4
    have hA4 : cvs g4 34 A' := cvs_of hA3 fun k j a1 a2 => s4 k j (by omega) (by omega)
    refine zz_fin.steps (n := 1) (s' := (41, [some (.ref 1), some (.int (Int32.ofNat c'))], [.int (Int32.ofNat c')], aa_H g5)) rfl ?_
    refine zz_fin.at (n := 1) rfl ⟨g5, rfl, (q2 454 0 (by omega)).trans ((s4 454 0 (by omega) (by omega)).trans hG0), fun k j e1 e2 e3 e4 e5 => ?_, .inr ⟨c', A', hs, rfl, ?_, cvs_cp hA4 q1, ⟨?_, ⟨fun j hj => ?_, fun o j o1 o2 hj => ?_⟩⟩, ⟨fun j hj => ?_, ⟨fun j hj => ?_, fun o j o1 o2 hj => ?_⟩, fun t ht => ⟨fun j hj => ?_, fun o j o1 o2 hj => ?_⟩⟩, ?_, ?_⟩⟩
    · rw [q2 k j (by omega), s4 k j (by omega) (by omega)]
      exact fr k j (by omega) e4 e5
    · rw [q2 1 13 (by omega), s4 1 13 (by omega) (by omega)]
      exact hG13
    · rw [q1.1 1 (by omega), s4 34 1 (by omega) (by omega), df 34 1 (by omega) (by omega) (by omega)]
      exact k1.1 1 (by omega)
    · rw [q1.2.1.1 j hj, s4 36 j (by omega) (by omega), df 36 j (by omega) (by omega) (by omega)]
      exact k1.2.1.1 j hj
    · rw [q1.2.1.2 o j o1 o2 hj, s4 _ j (by omega) (by omega), df _ j (by omega) (by omega) (by omega)]
      exact k1.2.1.2 o j o1 o2 hj
    · rw [q2 _ j (by omega), p1.1 j hj]
      exact fr 2 j (by omega) (by omega) (by omega)
    · rw [q2 _ j (by omega), p1.2.1.1 j hj]
      exact fr 4 j (by omega) (by omega) (by omega)
    · rw [q2 _ j (by omega), p1.2.1.2 o j o1 o2 hj]
      exact fr _ j (by omega) (by omega) (by omega)
    · rw [q2 _ j (by omega), (p1.2.2 t ht).1 j hj]
      exact fr _ j (by omega) (by omega) (by omega)
    · rw [q2 _ j (by omega), (p1.2.2 t ht).2 o j o1 o2 hj]
      exact fr _ j (by omega) (by omega) (by omega)
    · rw [q2 66 0 (by omega)]
      exact p2
    · rw [q2 66 1 (by omega)]
      exact p3
