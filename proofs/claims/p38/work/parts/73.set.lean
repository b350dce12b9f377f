/-! BY HAND: set, from the point's own writing on -/
theorem set_tail {g0 g1 g : aa_G} (k3 : aa_fr aa_dw g0 g1) (h6 : aa_Phi g1) (h5 : aa_inv g) {t x c : Nat} (ht : t < 4) (hx : x < c) (hc : c ≤ 12) (h0 : g 541 (4 + 50 * t) = Int32.ofNat c) (tb : aa_tb g1 g t) (hp : ∀ i, i < c → i ≠ x → aa_gd g (5 + 50 * t + 4 * i)) {w2 w3 w4 : Int32} (a0 : 0 ≤ w2.toInt) (a1 : w2.toInt ≤ 359) (b0 : 0 ≤ w3.toInt) (b1 : w3.toInt < w4.toInt) (b2 : w4.toInt ≤ 86399) {z7 : Int32} {y : Option Value} : zz_fin none 257 (179, [some (.ref 540), some (.int (Int32.ofNat t)), some (.int w2), some (.int w3), some (.int w4), some (.int (Int32.ofNat (4 + 50 * t))), some (.int (Int32.ofNat x)), some (.int z7), y], [], aa_H g) (aa_rpost g0) := by
  have em : (-1 : Int32).toInt = -1 := rfl
  refine zz_fin.steps (n := 4) (s' := (186, [some (.ref 540), some (.int (Int32.ofNat t)), some (.int w2), some (.int w3), some (.int w4), some (.int (Int32.ofNat (4 + 50 * t))), some (.int (Int32.ofNat x)), some (.int z7), y], [.int (Int32.ofNat x), .int (Int32.ofNat t), .ref 541], aa_H g)) rfl ?_
  refine zz_fin.call rfl rfl (Nat.le_of_ble_eq_true rfl) at_all ?_
  rintro v h ⟨rfl, rfl⟩
  refine zz_fin.steps (n := 1) (s' := (190, [some (.ref 540), some (.int (Int32.ofNat t)), some (.int w2), some (.int w3), some (.int w4), some (.int (Int32.ofNat (4 + 50 * t))), some (.int (Int32.ofNat x)), some (.int z7), y], [.int w2, .int (Int32.ofNat (5 + 50 * t + 4 * x)), .ref 541], aa_H g)) rfl ?_
  refine zz_fin.ias (n := 6384) rfl rfl (zz_inbN (by omega) (by omega)) ?_
  rw [zz_toN (by omega)]
  refine zz_fin.steps (n := 3) (s' := (195, [some (.ref 540), some (.int (Int32.ofNat t)), some (.int w2), some (.int w3), some (.int w4), some (.int (Int32.ofNat (4 + 50 * t))), some (.int (Int32.ofNat x)), some (.int z7), y], [.int (Int32.ofNat x), .int (Int32.ofNat t), .ref 540], aa_H (zz_w g 541 (5 + 50 * t + 4 * x) w2))) rfl ?_
  refine zz_fin.call rfl rfl (Nat.le_of_ble_eq_true rfl) at_all ?_
  rintro v h ⟨rfl, rfl⟩
  refine zz_fin.steps (n := 3) (s' := (202, [some (.ref 540), some (.int (Int32.ofNat t)), some (.int w2), some (.int w3), some (.int w4), some (.int (Int32.ofNat (4 + 50 * t))), some (.int (Int32.ofNat x)), some (.int z7), y], [.int (-1), .int w4, .int w3, .int (Int32.ofNat (5 + 50 * t + 4 * x)), .ref 540], aa_H (zz_w g 541 (5 + 50 * t + 4 * x) w2))) rfl ?_
  refine zz_fin.call rfl rfl (Nat.le_of_ble_eq_true rfl) (point_lay (by omega)) ?_
  rintro v h ⟨rfl, rfl⟩
  have bd : ∀ k, k < 4 → aa_iv 36 (5 + 50 * t + 4 * x + k) = aa_town (4 * x + k + 2) := fun k hk => by
    rw [show 5 + 50 * t + 4 * x + k = 5 + 50 * t + (4 * x + k) by omega, aa_iv_pt ht (by omega)]
  have bd0 : aa_iv 36 (5 + 50 * t + 4 * x) = (0, 359) := by
    rw [show 5 + 50 * t + 4 * x = 5 + 50 * t + 4 * x + 0 by omega, bd 0 (by omega), show 4 * x + 0 + 2 = 4 * x + 2 by omega, aa_town_neg, show 4 * x % 4 = 0 by omega]
    rfl
  have bd1 := bd 1 (by omega)
  have bd2 := bd 2 (by omega)
  have bd3 := bd 3 (by omega)
  rw [aa_town1] at bd1
  rw [aa_town2] at bd2
  rw [aa_town3] at bd3
  have q1 : aa_inv (zz_w g 541 (5 + 50 * t + 4 * x) w2) := aa_inv_w h5 (by show (aa_iv 36 _).1 ≤ _; rw [bd0]; exact a0) (by show _ ≤ (aa_iv 36 _).2; rw [bd0]; exact a1)
  have q2 := aa_inv_w q1 (k := 541) (j := 5 + 50 * t + 4 * x + 1) (v := w3) (by show (aa_iv 36 _).1 ≤ _; rw [bd1]; show (-1 : Int) ≤ _; omega) (by show _ ≤ (aa_iv 36 _).2; rw [bd1]; show _ ≤ (86399 : Int); omega)
  have q3 := aa_inv_w q2 (k := 541) (j := 5 + 50 * t + 4 * x + 2) (v := w4) (by show (aa_iv 36 _).1 ≤ _; rw [bd2]; show (-1 : Int) ≤ _; omega) (by show _ ≤ (aa_iv 36 _).2; rw [bd2]; show _ ≤ (86399 : Int); omega)
  have q4 := aa_inv_w q3 (k := 541) (j := 5 + 50 * t + 4 * x + 3) (v := -1) (by show (aa_iv 36 _).1 ≤ _; rw [bd3]; show (-1 : Int) ≤ _; omega) (by show _ ≤ (aa_iv 36 _).2; rw [bd3]; show _ ≤ (1 : Int); omega)
  have out : ∀ k j, ¬ (k = 541 ∧ 5 + 50 * t + 4 * x ≤ j ∧ j < 5 + 50 * t + 4 * x + 4) → zz_w (zz_w (zz_w (zz_w g 541 (5 + 50 * t + 4 * x) w2) 541 (5 + 50 * t + 4 * x + 1) w3) 541 (5 + 50 * t + 4 * x + 2) w4) 541 (5 + 50 * t + 4 * x + 3) (-1) k j = g k j := fun k j hj => by
    rw [aa_w_ne _ _ (by omega), aa_w_ne _ _ (by omega), aa_w_ne _ _ (by omega), aa_w_ne _ _ (by omega)]
  have p1 : zz_w (zz_w (zz_w (zz_w g 541 (5 + 50 * t + 4 * x) w2) 541 (5 + 50 * t + 4 * x + 1) w3) 541 (5 + 50 * t + 4 * x + 2) w4) 541 (5 + 50 * t + 4 * x + 3) (-1) 541 (5 + 50 * t + 4 * x + 1) = w3 := by
    rw [aa_w_ne _ _ (by omega), aa_w_ne _ _ (by omega), aa_w_at]
  have p2 : zz_w (zz_w (zz_w (zz_w g 541 (5 + 50 * t + 4 * x) w2) 541 (5 + 50 * t + 4 * x + 1) w3) 541 (5 + 50 * t + 4 * x + 2) w4) 541 (5 + 50 * t + 4 * x + 3) (-1) 541 (5 + 50 * t + 4 * x + 2) = w4 := by
    rw [aa_w_ne _ _ (by omega), aa_w_at]
  generalize zz_w (zz_w (zz_w (zz_w g 541 (5 + 50 * t + 4 * x) w2) 541 (5 + 50 * t + 4 * x + 1) w3) 541 (5 + 50 * t + 4 * x + 2) w4) 541 (5 + 50 * t + 4 * x + 3) (-1) = G at *
  have tb2 : aa_tb g1 G t := fun k j hj => by rw [out k j (by omega), tb k j hj]
  have hG : (aa_H G).2.2 541 (4 + 50 * t) = Int32.ofNat c := (out 541 _ (by omega)).trans h0
  have q5 : aa_Phi G := by
    refine aa_Phi_tb ht h6 tb2 fun i hi hic => ?_
    have hG : G 541 (4 + 50 * t) = Int32.ofNat c := hG
    rw [hG, zz_ofN (by omega)] at hic
    by_cases e : i = x
    · subst e
      intro _
      rw [p1, p2]
      exact ⟨b0, b1⟩
    · have := hp i (by omega) e
      unfold aa_gd at this ⊢
      rwa [out 541 _ (by omega), out 541 _ (by omega), out 541 _ (by omega)]
  refine zz_fin.steps (n := 3) (s' := (211, [some (.ref 540), some (.int (Int32.ofNat t)), some (.int w2), some (.int w3), some (.int w4), some (.int (Int32.ofNat (4 + 50 * t))), some (.int (Int32.ofNat x)), some (.int z7), y], [.int (Int32.ofNat (4 + 50 * t)), .ref 541], aa_H G)) rfl ?_
  refine zz_fin.ial (n := 6384) rfl rfl (zz_inbN (by omega) (by omega)) ?_
  rw [zz_toN (by omega), hG]
  refine zz_fin.at (n := 1) rfl ⟨G, rfl, q4, q5, (aa_dw_rw k3).tr (aa_tb_fr ht tb2 (by decide)), _, rfl, ?_, ?_⟩
  · rw [zz_ofN (by omega)]
    omega
  · rw [zz_ofN (by omega)]
    omega
