/-! (124, 232): both sides say the same -/
theorem h_same {Y Z : aa_G} {P : Nat} {v x : Int32} {b l : Int} (h : lv_c Y P (some (b, l))) (k : lv_h v Z x (some (b, l))) : fn_100 Y P x = Z 540 29 ∧ fn_100 Y P (x + 1) = Z 540 30 := by
  obtain ⟨-, p, q, e1, e2, e3, e4⟩ := k
  have a1 : Y P 3 = p := ti_eq.mpr (h.2.1.trans e1.symm)
  have a2 : Y P 4 = q := ti_eq.mpr (h.2.2.trans e2.symm)
  unfold fn_100
  rw [e3, e4, a1, a2, i_121, i_121]
  exact ⟨rfl, rfl⟩
theorem h_low {x : Int32} (hx : 0 ≤ x.toInt ∧ x.toInt ≤ 11) : x / 12 = 0 ∧ x - x / 12 * 12 = x := by
  have e1 : x / 12 = 0 := ti_eq.mpr (by rw [ti_div hx.1 (by decide), i_12n, i_0]; omega)
  rw [e1, Int32.zero_mul, Int32.sub_zero]
  exact ⟨rfl, rfl⟩
theorem ak_124 {g g2 : aa_G} (W : wd_g g) (W2 : wd_g g2) (e : g2 541 = g 541) (a b m h k : Int32) : (fn_124 g a b m h k).1 = (fn_232 g2 a b m h k).1 := by
  have e0 : g2 541 0 = g 541 0 := by rw [e]
  have e1 : g2 541 1 = g 541 1 := by rw [e]
  by_cases ha : 0 ≤ a.toInt ∧ a.toInt < (g 541 0).toInt
  · obtain ⟨t, ht, hat, ht2, c1, -⟩ := gt_s W ha
    by_cases hG : (0 ≤ b.toInt ∧ b.toInt ≤ 35999) ∧ (1 ≤ m.toInt ∧ m.toInt ≤ 360) ∧ (0 ≤ h.toInt ∧ h.toInt ≤ 11) ∧ (0 ≤ k.toInt ∧ k.toInt ≤ 2)
    · have hG0 := hG
      obtain ⟨hb, hm, hh, hk⟩ := hG0
      have E1 : fn_124 g a b m h k = fn_124_68 g b m h k (5 * t + 14) (-2) 0 b := by
        unfold fn_124
        rw [c1]
        dsimp only
        simp only [gd_91z W, ne_eq, ti_77z, ti_193z, ti_14z, ti_154z, gd_66z, gd_199z, Decidable.not_not, i_0, i_1, i_2, i_3, i_11, i_12n, i_15, i_23, i_60, i_360, i_864, i_8640, i_35, eq_self, not_true_eq_false, not_false_eq_true, and_self, or_self, if_true, if_false, hb, hm, hh, hk]
      have E2 : fn_232 g2 a b m h k = fn_232_59 g2 a b m h k (-2) 0 b := by
        unfold fn_232
        simp only [gd_191z W2, gd_192z W2, ti_204 W2.2.1, ne_eq, ti_77z, ti_193z, ti_14z, ti_154z, gd_66z, gd_199z, Decidable.not_not, i_0, i_1, i_2, i_3, i_11, i_12n, i_15, i_23, i_60, i_360, i_864, i_8640, i_35, eq_self, not_true_eq_false, not_false_eq_true, and_self, or_self, if_true, if_false, e0, e1, ha, hb, hm, hh, hk]
      rw [E1, E2]
      rw [hat]
      obtain ⟨h1, h2⟩ := h_low hh
      unfold fn_124_68 fn_232_59
      have eb : (b + m).toInt = b.toInt + m.toInt := aa_add32 (by omega) (by omega)
      refine lp_two1 (fun (n' : Nat) (s t' : aa_G × Int32 × Int32 × Int32) => t'.2.2.2.toInt + n' = b.toInt + m.toInt ∧ (b.toInt ≤ s.2.2.2.toInt ∧ s.2.2.2.toInt ≤ 36000) ∧ (s.2.1 = t'.2.1 ∧ s.2.2.1 = t'.2.2.1) ∧ (s.2.2.2.toInt = t'.2.2.2.toInt ∨ (36000 ≤ s.2.2.2.toInt ∧ s.2.2.2.toInt ≤ t'.2.2.2.toInt)) ∧ (wd_g s.1 ∧ s.1 541 = g 541) ∧ (wd_g t'.1 ∧ t'.1 541 = g 541)) ?_ ?_ m.toInt.toNat _ _ ⟨by first | omega | (dsimp only; omega), by first | omega | (dsimp only; omega), ⟨rfl, rfl⟩, .inl rfl, ⟨W, rfl⟩, ⟨W2, e⟩⟩
      · rintro n' ⟨X, c, w, i⟩ ⟨Y, c', w', j⟩ ⟨r1, r2, ⟨r3, r4⟩, r5, ⟨w1, w2⟩, w3, w4⟩
        dsimp only at r1 r2 r3 r4 r5 w1 w2 w3 w4 ⊢
        subst r3 r4
        have n3 : ¬ b + m ≤ j := fun z => by have := aa_le32.mp z; omega
        have es : (j + 1).toInt = j.toInt + 1 := i_suc (by omega) (by omega)
        obtain ⟨z1, z2, v3⟩ := lv_hour j h w3 (by rw [w4]; exact ht2) (.inl h1)
        rw [w4, h2, h1, i_0] at v3
        unfold fn_232_59b
        rw [if_neg n3]
        generalize fn_229 Y (Int32.ofNat t) j h = Y' at z1 z2 v3 ⊢
        by_cases hi : i.toInt < 36000
        · have r5 : i.toInt = j.toInt := by omega
          have r5 : i = j := ti_eq.mpr r5
          subst r5
          have n1 : ¬ (36000 : Int32) ≤ i := fun z => by have := aa_le32.mp z; rw [i_36] at this; omega
          obtain ⟨x1, x2, x3, v1, -⟩ := lv_look 461 i 0 w1 (by rw [w2]; exact ht2) (by omega) (.inl rfl)
          rw [w2, i_0] at v1
          unfold fn_124_68b
          rw [if_neg n3, if_neg n1]
          generalize fn_78 X 461 (some (5 * t + 14)) i 0 = X' at x1 x2 x3 v1 ⊢
          unfold fn_124_96 fn_124_147 fn_124_155 fn_232_76 fn_232_117 fn_232_136 fn_232_144
          cases hr : hv_t (g 541) t i.toInt 0 with
          | none =>
            rw [hr] at v1 v3
            have v3 : Y'.1 = 0 := v3
            rw [if_pos (lv_c0 v1), if_neg (c := Y'.1 ≠ 0) (fun z => z v3)]
            exact .inl ⟨_, _, rfl, rfl, by first | omega | (dsimp only; omega), by first | omega | (dsimp only; omega), ⟨rfl, rfl⟩, .inl rfl, ⟨x1, x2.trans w2⟩, z1, z2.trans w4⟩
          | some r =>
            obtain ⟨u', l'⟩ := r
            rw [hr] at v1 v3
            obtain ⟨s1, s2⟩ := h_same v1 v3
            rw [if_neg (c := X' 461 0 = 0) (by rw [lv_c1 v1]; decide), if_pos (c := Y'.1 ≠ 0) (by rw [v3.1]; decide), s1, s2]
            have ew : (if k ≠ 0 then if k ≠ 1 then (if c = -2 then (Sum.inl (Y'.2, i, Y'.2 540 29, i + 1) : (aa_G × Int32 × Int32 × Int32) ⊕ (Int32 × aa_G)) else if w < Y'.2 540 29 then .inl (Y'.2, i, Y'.2 540 29, i + 1) else .inl (Y'.2, c, w, i + 1)) else (if c = -2 then .inl (Y'.2, i, -(Y'.2 540 29), i + 1) else if w < -(Y'.2 540 29) then .inl (Y'.2, i, -(Y'.2 540 29), i + 1) else .inl (Y'.2, c, w, i + 1)) else (if c = -2 then .inl (Y'.2, i, Y'.2 540 30 - Y'.2 540 29, i + 1) else if w < Y'.2 540 30 - Y'.2 540 29 then .inl (Y'.2, i, Y'.2 540 30 - Y'.2 540 29, i + 1) else .inl (Y'.2, c, w, i + 1))) = if c = -2 then .inl (Y'.2, i, fn_125 (Y'.2 540 29) (Y'.2 540 30) k, i + 1) else if w < fn_125 (Y'.2 540 29) (Y'.2 540 30) k then .inl (Y'.2, i, fn_125 (Y'.2 540 29) (Y'.2 540 30) k, i + 1) else .inl (Y'.2, c, w, i + 1) := by
              unfold fn_125
              by_cases k0 : k = 0
              · simp only [k0, ne_eq, eq_self, not_true_eq_false, if_false]
              · by_cases k1 : k = 1
                · simp only [k1, i_10, ne_eq, eq_self, not_true_eq_false, not_false_eq_true, if_false, if_true]
                · simp only [k0, k1, ne_eq, not_false_eq_true, if_true]
            rw [ew]
            generalize fn_125 (Y'.2 540 29) (Y'.2 540 30) k = y
            by_cases c2 : c = -2
            · rw [if_pos c2, if_pos c2]
              exact .inl ⟨_, _, rfl, rfl, by first | omega | (dsimp only; omega), by first | omega | (dsimp only; omega), ⟨rfl, rfl⟩, .inl rfl, ⟨x1, x2.trans w2⟩, z1, z2.trans w4⟩
            · rw [if_neg c2, if_neg c2]
              by_cases z : y ≤ w
              · rw [if_pos z, if_neg (c := w < y) (fun h => Int32.not_le.mpr h z)]
                exact .inl ⟨_, _, rfl, rfl, by first | omega | (dsimp only; omega), by first | omega | (dsimp only; omega), ⟨rfl, rfl⟩, .inl rfl, ⟨x1, x2.trans w2⟩, z1, z2.trans w4⟩
              · rw [if_neg z, if_pos (c := w < y) (Int32.not_le.mp z)]
                exact .inl ⟨_, _, rfl, rfl, by first | omega | (dsimp only; omega), by first | omega | (dsimp only; omega), ⟨rfl, rfl⟩, .inl rfl, ⟨x1, x2.trans w2⟩, z1, z2.trans w4⟩
        · have hn : hv_t (g 541) t j.toInt 0 = none := by
            unfold hv_t tw_H
            rw [if_pos (by omega)]
          rw [hn] at v3
          have v3 : Y'.1 = 0 := v3
          unfold fn_232_76 fn_232_144
          rw [if_neg (c := Y'.1 ≠ 0) (fun z => z v3)]
          exact .inr (.inl ⟨_, rfl, by first | omega | (dsimp only; omega), by first | omega | (dsimp only; omega), ⟨rfl, rfl⟩, .inr (by first | omega | (dsimp only; omega)), ⟨w1, w2⟩, z1, z2.trans w4⟩)
      · rintro ⟨X, c, w, i⟩ ⟨Y, c', w', j⟩ ⟨r1, r2, ⟨r3, r4⟩, r5, -⟩
        dsimp only at r1 r2 r3 r4 r5 ⊢
        subst r3 r4
        unfold fn_124_68b fn_232_59b
        rw [if_pos (c := b + m ≤ j) (aa_le32.mpr (by omega))]
        by_cases n1 : b + m ≤ i
        · rw [if_pos n1]
          exact ⟨_, _, rfl, rfl, rfl⟩
        · rw [if_neg n1, if_pos (c := (36000 : Int32) ≤ i) (aa_le32.mpr (by rw [i_36]; have := mt aa_le32.mpr n1; omega))]
          exact ⟨_, _, rfl, rfl, rfl⟩
    · have E1 : (fn_124 g a b m h k).1 = -1 := by
        unfold fn_124
        rw [c1]
        dsimp only
        simp only [gd_91z W, ne_eq, ti_77z, ti_193z, ti_14z, ti_154z, gd_66z, gd_199z, Decidable.not_not, i_0, i_1, i_2, i_3, i_11, i_12n, i_15, i_23, i_60, i_360, i_864, i_8640, i_35, eq_self, not_true_eq_false, not_false_eq_true, and_self, or_self, if_true, if_false]
        repeat' split
        all_goals first | rfl | (exfalso; omega)
      have E2 : (fn_232 g2 a b m h k).1 = -1 := by
        unfold fn_232
        simp only [gd_191z W2, gd_192z W2, ti_204 W2.2.1, ne_eq, ti_77z, ti_193z, ti_14z, ti_154z, gd_66z, gd_199z, Decidable.not_not, i_0, i_1, i_2, i_3, i_11, i_12n, i_15, i_23, i_60, i_360, i_864, i_8640, i_35, eq_self, not_true_eq_false, not_false_eq_true, and_self, or_self, if_true, if_false, e0, e1, ha]
        repeat' split
        all_goals first | rfl | (exfalso; omega)
      rw [E1, E2]
  · have E1 : (fn_124 g a b m h k).1 = -1 := by
      unfold fn_124
      simp only [gt_n W ha]
    have E2 : (fn_232 g2 a b m h k).1 = -1 := by
      unfold fn_232
      simp only [gd_191z W2, gd_192z W2, ti_204 W2.2.1, ne_eq, ti_77z, ti_193z, ti_14z, ti_154z, gd_66z, gd_199z, Decidable.not_not, i_0, i_1, i_2, i_3, i_11, i_12n, i_15, i_23, i_60, i_360, i_864, i_8640, i_35, eq_self, not_true_eq_false, not_false_eq_true, and_self, or_self, if_true, if_false, e0, e1]
      repeat' split
      all_goals first | rfl | (exfalso; omega)
    rw [E1, E2]
theorem lq_124 {g : aa_G} {a0 a1 a2 a3 a4 : Int32} (hi : aa_inv g) (hφ : aa_Phi g) (hR : lr_R g) : lq_ok true 124 232 [.int a0, .int a1, .int a2, .int a3, .int a4] g :=
  lq_ask (y := fn_232 (fn_124 g a0 a1 a2 a3 a4).2 a0 a1 a2 a3 a4) hi hφ hR (ko_fw (ko_124 hi hφ) fun _ _ _ r => dn_124 r) (fun i1 p1 => ko_fw (ko_232 i1 p1) fun _ _ _ r => dn_232 r) (by decide +kernel) (by decide +kernel) (by decide +kernel) (by decide +kernel) (by decide +kernel) (by decide +kernel) fun W W2 e => ak_124 W W2 e a0 a1 a2 a3 a4
