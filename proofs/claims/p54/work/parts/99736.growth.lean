/-! (128, 243): both sides say the same -/
theorem ak_128 {g g2 : aa_G} (W : wd_g g) (W2 : wd_g g2) (e : g2 541 = g 541) (a b m k : Int32) : (fn_128 g a b m k).1 = (fn_243 g2 a b m k).1 := by
  have e0 : g2 541 0 = g 541 0 := by rw [e]
  have e1 : g2 541 1 = g 541 1 := by rw [e]
  by_cases ha : 0 ≤ a.toInt ∧ a.toInt < (g 541 0).toInt
  · obtain ⟨t, ht, hat, ht2, c1, -⟩ := gt_s W ha
    by_cases hG : (0 ≤ b.toInt ∧ b.toInt ≤ 35999) ∧ (1 ≤ m.toInt ∧ m.toInt ≤ 360) ∧ (0 ≤ k.toInt ∧ k.toInt ≤ 2)
    · have hG0 := hG
      obtain ⟨hb, hm, hk⟩ := hG0
      have E1 : fn_128 g a b m k = fn_128_60 g b m k (5 * t + 14) 0 (-1000000) (-2) b := by
        unfold fn_128
        rw [c1]
        dsimp only
        simp only [gd_91z W, ne_eq, ti_77z, ti_193z, ti_14z, ti_154z, gd_66z, gd_199z, Decidable.not_not, i_0, i_1, i_2, i_3, i_11, i_12n, i_15, i_23, i_60, i_360, i_864, i_8640, i_35, eq_self, not_true_eq_false, not_false_eq_true, and_self, or_self, if_true, if_false, hb, hm, hk]
      have E2 : fn_243 g2 a b m k = fn_243_55 g2 a b m k 0 (-1000000) (-2) b := by
        unfold fn_243
        simp only [gd_191z W2, gd_192z W2, ti_204 W2.2.1, ne_eq, ti_77z, ti_193z, ti_14z, ti_154z, gd_66z, gd_199z, Decidable.not_not, i_0, i_1, i_2, i_3, i_11, i_12n, i_15, i_23, i_60, i_360, i_864, i_8640, i_35, eq_self, not_true_eq_false, not_false_eq_true, and_self, or_self, if_true, if_false, e0, e1, ha, hb, hm, hk]
      rw [E1, E2]
      rw [hat]
      unfold fn_128_60 fn_243_55
      have eb : (b + m).toInt = b.toInt + m.toInt := aa_add32 (by omega) (by omega)
      refine lp_two1 (fun (n' : Nat) (s t' : aa_G × Int32 × Int32 × Int32 × Int32) => t'.2.2.2.2.toInt + n' = b.toInt + m.toInt ∧ (b.toInt ≤ s.2.2.2.2.toInt ∧ s.2.2.2.2.toInt ≤ 36000) ∧ (s.2.1 = t'.2.1 ∧ s.2.2.1 = t'.2.2.1 ∧ s.2.2.2.1 = t'.2.2.2.1) ∧ (s.2.2.2.2.toInt = t'.2.2.2.2.toInt ∨ (36000 ≤ s.2.2.2.2.toInt ∧ s.2.2.2.2.toInt ≤ t'.2.2.2.2.toInt)) ∧ (wd_g s.1 ∧ s.1 541 = g 541) ∧ (wd_g t'.1 ∧ t'.1 541 = g 541)) ?_ ?_ m.toInt.toNat _ _ ⟨by first | omega | (dsimp only; omega), by first | omega | (dsimp only; omega), ⟨rfl, rfl, rfl⟩, .inl rfl, ⟨W, rfl⟩, ⟨W2, e⟩⟩
      · rintro n' ⟨X, c, w, v, i⟩ ⟨Y, c', w', v', j⟩ ⟨r1, r2, ⟨r3, r4, r6⟩, r5, ⟨w1, w2⟩, w3, w4⟩
        dsimp only at r1 r2 r3 r4 r5 r6 w1 w2 w3 w4 ⊢
        subst r3 r4 r6
        have n3 : ¬ b + m ≤ j := fun z => by have := aa_le32.mp z; omega
        have es : (j + 1).toInt = j.toInt + 1 := i_suc (by omega) (by omega)
        have ep : (j - 1).toInt = j.toInt - 1 := aa_sub32 (by rw [i_1]; omega) (by rw [i_1]; omega)
        obtain ⟨z1, z2, -, v3⟩ := lv_len j w3 (by rw [w4]; exact ht2)
        rw [w4] at v3
        unfold fn_243_55b
        rw [if_neg n3]
        generalize fn_222 Y (Int32.ofNat t) j = Y1 at z1 z2 v3 ⊢
        have z2 := z2.trans w4
        unfold fn_243_70
        obtain ⟨y1, y2, -, v4⟩ := lv_len (j - 1) z1 (by rw [z2]; exact ht2)
        rw [z2] at v4
        generalize fn_222 Y1.2 (Int32.ofNat t) (j - 1) = Y2 at y1 y2 v4 ⊢
        have y2 := y2.trans z2
        by_cases hi : i.toInt < 36000
        · have r5 : i.toInt = j.toInt := by omega
          have r5 : i = j := ti_eq.mpr r5
          subst r5
          have n1 : ¬ (36000 : Int32) ≤ i := fun z => by have := aa_le32.mp z; rw [i_36] at this; omega
          obtain ⟨x1, x2, -, v1, -⟩ := lv_look 462 (i - 1) 0 w1 (by rw [w2]; exact ht2) (by omega) (.inl rfl)
          rw [w2, i_0] at v1
          unfold fn_128_60b
          rw [if_neg n3, if_neg n1]
          generalize fn_78 X 462 (some (5 * t + 14)) (i - 1) 0 = X1 at x1 x2 v1 ⊢
          have x2 := x2.trans w2
          obtain ⟨p1, p2, p3, v2, -⟩ := lv_look 461 i 0 x1 (by rw [x2]; exact ht2) (by omega) (.inl rfl)
          rw [x2, i_0] at v2
          unfold fn_128_90
          generalize fn_78 X1 461 (some (5 * t + 14)) i 0 = X2 at p1 p2 p3 v2 ⊢
          have p2 := p2.trans x2
          unfold fn_128_102 fn_243_81 fn_128_164 fn_243_132
          rw [p3 462 0 (by omega), p3 462 4 (by omega)]
          cases hr : hv_t (g 541) t (i - 1).toInt 0 with
          | none =>
            rw [hr] at v1 v4
            have v4 : Y2.1 = -1 := v4
            rw [if_pos (lv_c0 v1), v4]
            by_cases z : Y1.1 = -1
            · rw [if_pos z]
              exact .inl ⟨_, _, rfl, rfl, by first | omega | (dsimp only; omega), by first | omega | (dsimp only; omega), ⟨rfl, rfl, rfl⟩, .inl rfl, ⟨p1, p2⟩, y1, y2⟩
            · rw [if_neg z, if_neg (c := (-1 : Int32) ≠ -1) (fun h => h rfl)]
              exact .inl ⟨_, _, rfl, rfl, by first | omega | (dsimp only; omega), by first | omega | (dsimp only; omega), ⟨rfl, rfl, rfl⟩, .inl rfl, ⟨p1, p2⟩, y1, y2⟩
          | some r =>
            obtain ⟨u', l'⟩ := r
            rw [hr] at v1 v4
            have v4 : Y2.1.toInt = l' := v4
            have hl' := hv_bb W ht2 hr
            have e5 : X1 462 4 = Y2.1 := ti_eq.mpr (v1.2.2.trans v4.symm)
            rw [if_neg (c := X1 462 0 = 0) (by rw [lv_c1 v1]; decide), if_pos (c := Y2.1 ≠ -1) (fun z => by rw [z, i_m1] at v4; omega), e5]
            cases hs : hv_t (g 541) t i.toInt 0 with
            | none =>
              rw [hs] at v2 v3
              have v3 : Y1.1 = -1 := v3
              rw [if_neg (c := X2 461 0 ≠ 0) (fun z => z (lv_c0 v2)), if_pos (c := Y1.1 = -1) v3]
              exact .inl ⟨_, _, rfl, rfl, by first | omega | (dsimp only; omega), by first | omega | (dsimp only; omega), ⟨rfl, rfl, rfl⟩, .inl rfl, ⟨p1, p2⟩, y1, y2⟩
            | some r =>
              obtain ⟨u2, l2⟩ := r
              rw [hs] at v2 v3
              have v3 : Y1.1.toInt = l2 := v3
              have hl2 := hv_bb W ht2 hs
              have e6 : X2 461 4 = Y1.1 := ti_eq.mpr (v2.2.2.trans v3.symm)
              rw [if_pos (c := X2 461 0 ≠ 0) (by rw [lv_c1 v2]; decide), if_neg (c := Y1.1 = -1) (fun z => by rw [z, i_m1] at v3; omega), e6]
              by_cases z : Y1.1 - Y2.1 ≤ w
              · rw [if_pos z, if_neg (c := w < Y1.1 - Y2.1) (fun h => Int32.not_le.mpr h z)]
                exact .inl ⟨_, _, rfl, rfl, by first | omega | (dsimp only; omega), by first | omega | (dsimp only; omega), ⟨rfl, rfl, rfl⟩, .inl rfl, ⟨p1, p2⟩, y1, y2⟩
              · rw [if_neg z, if_pos (c := w < Y1.1 - Y2.1) (Int32.not_le.mp z)]
                exact .inl ⟨_, _, rfl, rfl, by first | omega | (dsimp only; omega), by first | omega | (dsimp only; omega), ⟨rfl, rfl, rfl⟩, .inl rfl, ⟨p1, p2⟩, y1, y2⟩
        · have hn : hv_t (g 541) t j.toInt 0 = none := by
            unfold hv_t tw_H
            rw [if_pos (by omega)]
          rw [hn] at v3
          have v3 : Y1.1 = -1 := v3
          unfold fn_243_81 fn_243_132
          rw [if_pos (c := Y1.1 = -1) v3]
          exact .inr (.inl ⟨_, rfl, by first | omega | (dsimp only; omega), by first | omega | (dsimp only; omega), ⟨rfl, rfl, rfl⟩, .inr (by first | omega | (dsimp only; omega)), ⟨w1, w2⟩, y1, y2⟩)
      · rintro ⟨X, c, w, v, i⟩ ⟨Y, c', w', v', j⟩ ⟨r1, r2, ⟨r3, r4, r6⟩, r5, -⟩
        dsimp only at r1 r2 r3 r4 r5 r6 ⊢
        subst r3 r4 r6
        have fin : ∃ r k', (Sum.inr (fn_128_170 X k c w v) : (aa_G × Int32 × Int32 × Int32 × Int32) ⊕ (Int32 × aa_G)) = .inr r ∧ (if k ≠ 0 then if k ≠ 1 then (Sum.inr (v, Y) : (aa_G × Int32 × Int32 × Int32 × Int32) ⊕ (Int32 × aa_G)) else .inr (w, Y) else .inr (c, Y)) = .inr k' ∧ r.1 = k'.1 := by
          unfold fn_128_170
          by_cases k0 : k = 0
          · rw [if_neg (fun z => z k0), if_neg (fun z => z k0)]
            exact ⟨_, _, rfl, rfl, rfl⟩
          · rw [if_pos k0, if_pos k0]
            by_cases k1 : k = 1
            · rw [if_neg (fun z => z k1), if_neg (fun z => z k1)]
              exact ⟨_, _, rfl, rfl, rfl⟩
            · rw [if_pos k1, if_pos k1]
              exact ⟨_, _, rfl, rfl, rfl⟩
        unfold fn_128_60b fn_243_55b
        rw [if_pos (c := b + m ≤ j) (aa_le32.mpr (by omega))]
        by_cases n1 : b + m ≤ i
        · rw [if_pos n1]
          exact fin
        · rw [if_neg n1, if_pos (c := (36000 : Int32) ≤ i) (aa_le32.mpr (by rw [i_36]; have := mt aa_le32.mpr n1; omega))]
          exact fin
    · have E1 : (fn_128 g a b m k).1 = -1000000 := by
        unfold fn_128
        rw [c1]
        dsimp only
        simp only [gd_91z W, ne_eq, ti_77z, ti_193z, ti_14z, ti_154z, gd_66z, gd_199z, Decidable.not_not, i_0, i_1, i_2, i_3, i_11, i_12n, i_15, i_23, i_60, i_360, i_864, i_8640, i_35, eq_self, not_true_eq_false, not_false_eq_true, and_self, or_self, if_true, if_false]
        repeat' split
        all_goals first | rfl | (exfalso; omega)
      have E2 : (fn_243 g2 a b m k).1 = -1000000 := by
        unfold fn_243
        simp only [gd_191z W2, gd_192z W2, ti_204 W2.2.1, ne_eq, ti_77z, ti_193z, ti_14z, ti_154z, gd_66z, gd_199z, Decidable.not_not, i_0, i_1, i_2, i_3, i_11, i_12n, i_15, i_23, i_60, i_360, i_864, i_8640, i_35, eq_self, not_true_eq_false, not_false_eq_true, and_self, or_self, if_true, if_false, e0, e1, ha]
        repeat' split
        all_goals first | rfl | (exfalso; omega)
      rw [E1, E2]
  · have E1 : (fn_128 g a b m k).1 = -1000000 := by
      unfold fn_128
      simp only [gt_n W ha]
    have E2 : (fn_243 g2 a b m k).1 = -1000000 := by
      unfold fn_243
      simp only [gd_191z W2, gd_192z W2, ti_204 W2.2.1, ne_eq, ti_77z, ti_193z, ti_14z, ti_154z, gd_66z, gd_199z, Decidable.not_not, i_0, i_1, i_2, i_3, i_11, i_12n, i_15, i_23, i_60, i_360, i_864, i_8640, i_35, eq_self, not_true_eq_false, not_false_eq_true, and_self, or_self, if_true, if_false, e0, e1]
      repeat' split
      all_goals first | rfl | (exfalso; omega)
    rw [E1, E2]
theorem lq_128 {g : aa_G} {a0 a1 a2 a3 : Int32} (hi : aa_inv g) (hφ : aa_Phi g) (hR : lr_R g) : lq_ok true 128 243 [.int a0, .int a1, .int a2, .int a3] g :=
  lq_ask (y := fn_243 (fn_128 g a0 a1 a2 a3).2 a0 a1 a2 a3) hi hφ hR (ko_fw (ko_128 hi hφ) fun _ _ _ r => dn_128 r) (fun i1 p1 => ko_fw (ko_243 i1 p1) fun _ _ _ r => dn_243 r) (by decide +kernel) (by decide +kernel) (by decide +kernel) (by decide +kernel) (by decide +kernel) (by decide +kernel) fun W W2 e => ak_128 W W2 e a0 a1 a2 a3
