/-! WATCH (99, 244): both sides say the same -/
theorem ak_99 {g g2 : aa_G} (W : wd_g g) (W2 : wd_g g2) (e : g2 541 = g 541) (a b k w : Int32) : (fn_99 g a b k w).1 = (fn_244 g2 a b k w).1 := by
  have e0 : g2 541 0 = g 541 0 := by rw [e]
  have e1 : g2 541 1 = g 541 1 := by rw [e]
  by_cases ha : 0 ≤ a.toInt ∧ a.toInt < (g 541 0).toInt
  · obtain ⟨t, ht, hat, ht2, c1, -⟩ := gt_s W ha
    by_cases hG : (0 ≤ b.toInt ∧ b.toInt ≤ 35999) ∧ (0 ≤ k.toInt ∧ k.toInt ≤ 3) ∧ (0 ≤ w.toInt ∧ w.toInt ≤ 1)
    · have hG0 := hG
      obtain ⟨hb, hk, hw⟩ := hG0
      have E1 : fn_99 g a b k w = fn_99_54 (fn_78 g 461 (some (5 * t + 14)) b 1) k w := by
        unfold fn_99
        rw [c1]
        dsimp only
        simp only [gd_91z W, ne_eq, ti_77z, ti_193z, ti_14z, ti_154z, gd_66z, gd_199z, Decidable.not_not, i_0, i_1, i_2, i_3, i_11, i_12n, i_15, i_23, i_60, i_360, i_864, i_8640, i_35, eq_self, not_true_eq_false, not_false_eq_true, and_self, or_self, if_true, if_false, hb, hk, hw]
      have E2 : fn_244 g2 a b k w = fn_244_37 (fn_194 g2 a b 1).2 k w (fn_194 g2 a b 1).1 := by
        unfold fn_244
        simp only [gd_191z W2, gd_192z W2, ti_204 W2.2.1, ne_eq, ti_77z, ti_193z, ti_14z, ti_154z, gd_66z, gd_199z, Decidable.not_not, i_0, i_1, i_2, i_3, i_11, i_12n, i_15, i_23, i_60, i_360, i_864, i_8640, i_35, eq_self, not_true_eq_false, not_false_eq_true, and_self, or_self, if_true, if_false, e0, e1, ha, hb, hk, hw]
      rw [E1, E2]
      rw [hat]
      obtain ⟨-, -, -, v1, -⟩ := lv_look 461 b 1 W ht2 (by omega) (.inr rfl)
      obtain ⟨-, -, -, v2⟩ := lv_half b 1 W2 (by rw [e0]; exact ht2) (.inr rfl)
      rw [e] at v2
      generalize fn_78 g 461 (some (5 * t + 14)) b 1 = Y at v1 ⊢
      generalize fn_194 g2 (Int32.ofNat t) b 1 = Z at v2 ⊢
      generalize hv_t (g 541) t b.toInt (1 : Int32).toInt = q at v1 v2
      unfold fn_99_54 fn_244_37
      cases q with
      | none =>
        simp only [lv_c0 v1, lv_m0 v2, ne_eq, eq_self, not_true_eq_false, if_false]
      | some r =>
        simp only [lv_c1 v1, lv_m1 v2, i_10, ne_eq, not_false_eq_true, if_true]
        unfold fn_100 fn_225
        rw [lv_3 v1 v2, lv_4 v1 v2]
        by_cases w0 : w = 0
        · simp only [w0, eq_self, not_true_eq_false, if_false, i_121]
        · simp only [w0, not_false_eq_true, if_true, i_sub, i_121]
    · have E1 : (fn_99 g a b k w).1 = -1 := by
        unfold fn_99
        rw [c1]
        dsimp only
        simp only [gd_91z W, ne_eq, ti_77z, ti_193z, ti_14z, ti_154z, gd_66z, gd_199z, Decidable.not_not, i_0, i_1, i_2, i_3, i_11, i_12n, i_15, i_23, i_60, i_360, i_864, i_8640, i_35, eq_self, not_true_eq_false, not_false_eq_true, and_self, or_self, if_true, if_false]
        repeat' split
        all_goals first | rfl | (exfalso; omega)
      have E2 : (fn_244 g2 a b k w).1 = -1 := by
        unfold fn_244
        simp only [gd_191z W2, gd_192z W2, ti_204 W2.2.1, ne_eq, ti_77z, ti_193z, ti_14z, ti_154z, gd_66z, gd_199z, Decidable.not_not, i_0, i_1, i_2, i_3, i_11, i_12n, i_15, i_23, i_60, i_360, i_864, i_8640, i_35, eq_self, not_true_eq_false, not_false_eq_true, and_self, or_self, if_true, if_false, e0, e1, ha]
        repeat' split
        all_goals first | rfl | (exfalso; omega)
      rw [E1, E2]
  · have E1 : (fn_99 g a b k w).1 = -1 := by
      unfold fn_99
      simp only [gt_n W ha]
    have E2 : (fn_244 g2 a b k w).1 = -1 := by
      unfold fn_244
      simp only [gd_191z W2, gd_192z W2, ti_204 W2.2.1, ne_eq, ti_77z, ti_193z, ti_14z, ti_154z, gd_66z, gd_199z, Decidable.not_not, i_0, i_1, i_2, i_3, i_11, i_12n, i_15, i_23, i_60, i_360, i_864, i_8640, i_35, eq_self, not_true_eq_false, not_false_eq_true, and_self, or_self, if_true, if_false, e0, e1]
      repeat' split
      all_goals first | rfl | (exfalso; omega)
    rw [E1, E2]
theorem lq_99 {g : aa_G} {a0 a1 a2 a3 : Int32} (hi : aa_inv g) (hφ : aa_Phi g) (hR : lr_R g) : lq_ok true 99 244 [.int a0, .int a1, .int a2, .int a3] g :=
  lq_ask (y := fn_244 (fn_99 g a0 a1 a2 a3).2 a0 a1 a2 a3) hi hφ hR (ko_fw (ko_99 hi hφ) fun _ _ _ r => dn_99 r) (fun i1 p1 => ko_fw (ko_244 i1 p1) fun _ _ _ r => dn_244 r) (by decide +kernel) (by decide +kernel) (by decide +kernel) (by decide +kernel) (by decide +kernel) (by decide +kernel) fun W W2 e => ak_99 W W2 e a0 a1 a2 a3
