/-! BY HAND: set, from the deed on -/
theorem set_mid {g : aa_G} (h5 : aa_inv g) (h6 : aa_Phi g) {t x c : Nat} (ht : t < 4) (hc : c ≤ 12) (h0 : g 541 (4 + 50 * t) = Int32.ofNat c) {w2 w3 w4 : Int32} (a0 : 0 ≤ w2.toInt) (a1 : w2.toInt ≤ 359) (b0 : 0 ≤ w3.toInt) (b1 : w3.toInt < w4.toInt) (b2 : w4.toInt ≤ 86399) {z7 : Int32} (hz : (z7 ≠ 0 ∧ x < c) ∨ (z7 = 0 ∧ x ≤ c ∧ c ≤ 11)) {y : Option Value} : zz_fin none 257 (111, [some (.ref 540), some (.int (Int32.ofNat t)), some (.int w2), some (.int w3), some (.int w4), some (.int (Int32.ofNat (4 + 50 * t))), some (.int (Int32.ofNat x)), some (.int z7), y], [], aa_H g) (aa_rpost g) := by
  have e1 : (1 : Int32).toInt = 1 := rfl
  refine zz_fin.steps (n := 1) (s' := (112, [some (.ref 540), some (.int (Int32.ofNat t)), some (.int w2), some (.int w3), some (.int w4), some (.int (Int32.ofNat (4 + 50 * t))), some (.int (Int32.ofNat x)), some (.int z7), y], [.ref 540], aa_H g)) rfl ?_
  refine zz_fin.call rfl rfl (Nat.le_of_ble_eq_true rfl) (deed156 h5 h6) ?_
  rintro v h ⟨rfl, g1, rfl, k1, k2, k3⟩
  have h1 : g1 541 (4 + 50 * t) = Int32.ofNat c := (aa_dw_same k3 (by omega)).trans h0
  have h1' : (aa_H g1).2.2 541 (4 + 50 * t) = Int32.ofNat c := h1
  have gd1 : ∀ i : Nat, i < c → aa_gd g1 (5 + 50 * t + 4 * i) := fun i hi => by
    have := (k2.1 0 (by omega)).1 t i ht (by omega) (by rw [show 399 * 0 + 50 * t + 4 = 4 + 50 * t by omega, h1, zz_ofN (by omega)]; omega)
    rwa [show 399 * 0 + 50 * t + 4 * i + 5 = 5 + 50 * t + 4 * i by omega] at this
  refine zz_fin.steps (n := 1) (s' := (117, [some (.ref 540), some (.int (Int32.ofNat t)), some (.int w2), some (.int w3), some (.int w4), some (.int (Int32.ofNat (4 + 50 * t))), some (.int (Int32.ofNat x)), some (.int z7), y], [.int z7], aa_H g1)) rfl ?_
  refine zz_fin.if rfl (fun d => ?_) (fun d => ?_)
  · have d : z7 ≠ 0 := of_decide_eq_true d
    have hx : x < c := by
      rcases hz with z | z
      · exact z.2
      · exact absurd z.1 d
    exact set_tail k3 k2 k1 ht hx hc h1 (fun _ _ _ => rfl) (fun i hi _ => gd1 i hi) a0 a1 b0 b1 b2
  · have hx : x ≤ c ∧ c ≤ 11 := by
      rcases hz with z | z
      · exact absurd (decide_eq_true z.1) d
      · exact z.2
    obtain ⟨hx, hc1⟩ := hx
    refine zz_fin.steps (n := 4) (s' := (127, [some (.ref 540), some (.int (Int32.ofNat t)), some (.int w2), some (.int w3), some (.int w4), some (.int (Int32.ofNat (4 + 50 * t))), some (.int (Int32.ofNat x)), some (.int z7), y], [.int (Int32.ofNat (4 + 50 * t)), .ref 541, .int (Int32.ofNat t)], aa_H g1)) rfl ?_
    refine zz_fin.ial (n := 6384) rfl rfl (zz_inbN (by omega) (by omega)) ?_
    rw [zz_toN (by omega), h1']
    refine zz_fin.call rfl rfl (Nat.le_of_ble_eq_true rfl) at_all ?_
    rintro v h ⟨rfl, rfl⟩
    refine zz_fin.steps (n := 3) (s' := (135, [some (.ref 540), some (.int (Int32.ofNat t)), some (.int w2), some (.int w3), some (.int w4), some (.int (Int32.ofNat (4 + 50 * t))), some (.int (Int32.ofNat x)), some (.int z7), some (.int (Int32.ofNat (5 + 50 * t + 4 * c) - 1))], [], aa_H g1)) rfl ?_
    rw [show Int32.ofNat (5 + 50 * t + 4 * c) - 1 = Int32.ofNat (4 + 50 * t + 4 * c) from aa_eqN (by rw [aa_sub32 (by rw [zz_ofN (by omega), e1]; omega) (by rw [zz_ofN (by omega), e1]; omega), zz_ofN (by omega), e1]; omega) (by omega)]
    refine up_loop (S := 5 + 50 * t + 4 * x) (E := 5 + 50 * t + 4 * c) (by omega) ht rfl (by omega) g1 (fun g2 z hu => ?_) (4 * c - 4 * x) _ (by omega) (by omega) g1 ⟨fun q hq hq2 => absurd hq2 (by omega), fun _ _ _ => rfl⟩
    have h2' : (aa_H g2).2.2 541 (4 + 50 * t) = Int32.ofNat c := (hu.2 541 _ (by omega)).trans h1
    refine zz_fin.steps (n := 4) (s' := (175, [some (.ref 540), some (.int (Int32.ofNat t)), some (.int w2), some (.int w3), some (.int w4), some (.int (Int32.ofNat (4 + 50 * t))), some (.int (Int32.ofNat x)), some (.int z7), z], [.int (Int32.ofNat (4 + 50 * t)), .ref 541, .int (Int32.ofNat (4 + 50 * t)), .ref 541], aa_H g2)) rfl ?_
    refine zz_fin.ial (n := 6384) rfl rfl (zz_inbN (by omega) (by omega)) ?_
    rw [zz_toN (by omega), h2']
    refine zz_fin.steps (n := 2) (s' := (178, [some (.ref 540), some (.int (Int32.ofNat t)), some (.int w2), some (.int w3), some (.int w4), some (.int (Int32.ofNat (4 + 50 * t))), some (.int (Int32.ofNat x)), some (.int z7), z], [.int (Int32.ofNat c + 1), .int (Int32.ofNat (4 + 50 * t)), .ref 541], aa_H g2)) rfl ?_
    rw [show Int32.ofNat c + 1 = Int32.ofNat (c + 1) from (Int32.ofNat_add c 1).symm]
    refine zz_fin.ias (n := 6384) rfl rfl (zz_inbN (by omega) (by omega)) ?_
    rw [zz_toN (by omega)]
    have ei : aa_iv 36 (4 + 50 * t) = (0, 12) := by
      rcases (show t = 0 ∨ t = 1 ∨ t = 2 ∨ t = 3 by omega) with rfl | rfl | rfl | rfl <;> rfl
    have q1 : aa_inv (zz_w g2 541 (4 + 50 * t) (Int32.ofNat (c + 1))) := by
      refine aa_inv_w (aa_up_inv hu k1 ht (by omega) (by omega)) ?_ ?_
      · show (aa_iv 36 (4 + 50 * t)).1 ≤ _
        rw [ei, zz_ofN (by omega)]
        show (0 : Int) ≤ _
        omega
      · show _ ≤ (aa_iv 36 (4 + 50 * t)).2
        rw [ei, zz_ofN (by omega)]
        show _ ≤ (12 : Int)
        omega
    refine set_tail (c := c + 1) k3 k2 q1 ht (by omega) (by omega) (aa_w_at _ _ _ _) (fun k j hj => by rw [aa_w_ne _ _ (by omega), hu.2 k j (by omega)]) (fun i hi hne => ?_) a0 a1 b0 b1 b2
    by_cases e : i < x
    · have := gd1 i (by omega)
      unfold aa_gd at this ⊢
      rw [aa_w_ne _ _ (by omega), aa_w_ne _ _ (by omega), aa_w_ne _ _ (by omega)]
      rwa [hu.2 541 _ (by omega), hu.2 541 _ (by omega), hu.2 541 _ (by omega)]
    · obtain ⟨i, rfl⟩ : ∃ k, i = k + 1 := ⟨i - 1, by omega⟩
      have := gd1 i (by omega)
      unfold aa_gd at this ⊢
      rw [aa_w_ne _ _ (by omega), aa_w_ne _ _ (by omega), aa_w_ne _ _ (by omega)]
      rw [show 5 + 50 * t + 4 * (i + 1) + 3 = 5 + 50 * t + 4 * i + 3 + 4 by omega, show 5 + 50 * t + 4 * (i + 1) + 1 = 5 + 50 * t + 4 * i + 1 + 4 by omega, show 5 + 50 * t + 4 * (i + 1) + 2 = 5 + 50 * t + 4 * i + 2 + 4 by omega]
      rwa [hu.1 _ (by omega) (by omega), hu.1 _ (by omega) (by omega), hu.1 _ (by omega) (by omega)]
