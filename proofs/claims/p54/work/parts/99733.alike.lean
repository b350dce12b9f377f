/-! (127, 242): both sides say the same -/
theorem ak_127 {g g2 : aa_G} (W : wd_g g) (W2 : wd_g g2) (e : g2 541 = g 541) (a d b : Int32) : (fn_127 g a d b).1 = (fn_242 g2 a d b).1 := by
  have e0 : g2 541 0 = g 541 0 := by rw [e]
  have e1 : g2 541 1 = g 541 1 := by rw [e]
  by_cases ha : 0 ≤ a.toInt ∧ a.toInt < (g 541 0).toInt
  · obtain ⟨t, ht, hat, ht2, c1, -⟩ := gt_s W ha
    by_cases hG : (0 ≤ d.toInt ∧ d.toInt ≤ 35999) ∧ (0 ≤ b.toInt ∧ b.toInt ≤ 35999)
    · have hG0 := hG
      obtain ⟨hd, hb⟩ := hG0
      have E1 : fn_127 g a d b = fn_127_42 (fn_78 g 462 (some (5 * t + 14)) d 0) b (5 * t + 14) := by
        unfold fn_127
        rw [c1]
        dsimp only
        simp only [gd_91z W, ne_eq, ti_77z, ti_193z, ti_14z, ti_154z, gd_66z, gd_199z, Decidable.not_not, i_0, i_1, i_2, i_3, i_11, i_12n, i_15, i_23, i_60, i_360, i_864, i_8640, i_35, eq_self, not_true_eq_false, not_false_eq_true, and_self, or_self, if_true, if_false, hd, hb]
      have E2 : fn_242 g2 a d b = fn_242_24 (fn_222 g2 a d).2 a b (fn_222 g2 a d).1 := by
        unfold fn_242
        simp only [gd_191z W2, gd_192z W2, ti_204 W2.2.1, ne_eq, ti_77z, ti_193z, ti_14z, ti_154z, gd_66z, gd_199z, Decidable.not_not, i_0, i_1, i_2, i_3, i_11, i_12n, i_15, i_23, i_60, i_360, i_864, i_8640, i_35, eq_self, not_true_eq_false, not_false_eq_true, and_self, or_self, if_true, if_false, e0, e1, ha, hd, hb]
      rw [E1, E2]
      rw [hat]
      obtain ⟨w1, w2, -, v1, -⟩ := lv_look 462 d 0 W ht2 (by omega) (.inl rfl)
      obtain ⟨y1, y2, -, v2⟩ := lv_len d W2 (by rw [e0]; exact ht2)
      rw [e] at v2
      rw [i_0] at v1
      generalize fn_78 g 462 (some (5 * t + 14)) d 0 = X0 at w1 w2 v1 ⊢
      generalize fn_222 g2 (Int32.ofNat t) d = Y0 at y1 y2 v2 ⊢
      obtain ⟨q0, Y0⟩ := Y0
      dsimp only at y1 y2 v2 ⊢
      have y2 := y2.trans e
      cases hq : hv_t (g 541) t d.toInt 0 with
      | none =>
        rw [hq] at v1 v2
        have v2 : q0 = -1 := v2
        unfold fn_127_42 fn_242_24 fn_242_29
        simp only [lv_c0 v1, ne_eq, eq_self, not_true_eq_false, if_false]
        rw [lp_r (r := (-2, Y0)) (by
          dsimp only
          unfold fn_242_29b
          rw [if_pos (c := q0 = -1) v2]
          split <;> rfl)]
      | some r =>
        obtain ⟨u, l⟩ := r
        rw [hq] at v1 v2
        have v2 : q0.toInt = l := v2
        obtain ⟨m1, -, m3⟩ := v1
        have hl := hv_bb W ht2 hq
        have q1 : ¬ q0 = -1 := fun z => by rw [z, i_m1] at v2; omega
        have el : X0 462 4 = q0 := ti_eq.mpr (m3.trans v2.symm)
        unfold fn_127_42 fn_242_24 fn_127_58 fn_242_29
        simp only [m1, i_10, ne_eq, not_false_eq_true, if_true]
        have ef := fn_234_v hb
        have eb : (b + 360).toInt = b.toInt + 360 := aa_add32 (by rw [i_360]; omega) (by rw [i_360]; omega)
        refine lp_two1 (fun (n' : Nat) (s t' : aa_G × Int32) => s.2.toInt + n' = (if b.toInt + 359 ≤ 35999 then b.toInt + 360 else 36000) ∧ b.toInt ≤ s.2.toInt ∧ s.2 = t'.2 ∧ (wd_g s.1 ∧ s.1 541 = g 541 ∧ s.1 462 4 = q0) ∧ (wd_g t'.1 ∧ t'.1 541 = g 541)) ?_ ?_ ((if b.toInt + 359 ≤ 35999 then b.toInt + 360 else 36000) - b.toInt).toNat _ _ ⟨by dsimp only; split <;> omega, by first | omega | (dsimp only; omega), rfl, ⟨w1, w2, el⟩, ⟨y1, y2⟩⟩
        · rintro m ⟨X, i⟩ ⟨Y, j⟩ ⟨r1, r2, r3, ⟨w1, w2, w5⟩, w3, w4⟩
          dsimp only at r1 r2 r3 w1 w2 w5 w3 w4 ⊢
          subst r3
          have hi : i.toInt < b.toInt + 360 ∧ i.toInt < 36000 := by split at r1 <;> omega
          have es : (i + 1).toInt = i.toInt + 1 := i_suc (by omega) (by omega)
          have n1 : ¬ b + 360 ≤ i := fun z => by have := aa_le32.mp z; omega
          have n2 : ¬ (36000 : Int32) ≤ i := fun z => by have := aa_le32.mp z; rw [i_36] at this; omega
          have n3 : ¬ fn_234 b < i := fun z => by have := ti_lt.mp z; rw [ef] at this; split at this <;> omega
          obtain ⟨x1, x2, x3, v1, -⟩ := lv_look 461 i 0 w1 (by rw [w2]; exact ht2) (by omega) (.inl rfl)
          obtain ⟨z1, z2, -, v3⟩ := lv_len i w3 (by rw [w4]; exact ht2)
          rw [w2, i_0] at v1
          rw [w4] at v3
          unfold fn_127_58b fn_242_29b
          rw [if_neg n1, if_neg n2, if_neg n3, if_neg q1]
          generalize fn_78 X 461 (some (5 * t + 14)) i 0 = X' at x1 x2 x3 v1 ⊢
          generalize fn_222 Y (Int32.ofNat t) i = Y' at z1 z2 v3 ⊢
          have e4 : X' 462 4 = q0 := (x3 462 4 (by omega)).trans w5
          unfold fn_127_88 fn_242_51 fn_127_118
          have go : (∃ s' t', (Sum.inl (X', i + 1) : (aa_G × Int32) ⊕ (Int32 × aa_G)) = .inl s' ∧ (Sum.inl (Y'.2, i + 1) : (aa_G × Int32) ⊕ (Int32 × aa_G)) = .inl t' ∧ (s'.2.toInt + m = (if b.toInt + 359 ≤ 35999 then b.toInt + 360 else 36000) ∧ b.toInt ≤ s'.2.toInt ∧ s'.2 = t'.2 ∧ (wd_g s'.1 ∧ s'.1 541 = g 541 ∧ s'.1 462 4 = q0) ∧ (wd_g t'.1 ∧ t'.1 541 = g 541))) := ⟨_, _, rfl, rfl, by first | omega | (dsimp only; omega), by first | omega | (dsimp only; omega), rfl, ⟨x1, x2.trans w2, e4⟩, z1, z2.trans w4⟩
          cases hr : hv_t (g 541) t i.toInt 0 with
          | none =>
            rw [hr] at v1 v3
            have v3 : Y'.1 = -1 := v3
            rw [if_pos (lv_c0 v1), if_pos (c := Y'.1 ≠ q0) (fun z => q1 (z.symm.trans v3))]
            exact .inl go
          | some r =>
            obtain ⟨u', l'⟩ := r
            rw [hr] at v1 v3
            have v3 : Y'.1.toInt = l' := v3
            have e5 : X' 461 4 = Y'.1 := ti_eq.mpr (v1.2.2.trans v3.symm)
            rw [if_neg (c := X' 461 0 = 0) (by rw [lv_c1 v1]; decide), e4, e5]
            by_cases z : Y'.1 = q0
            · rw [if_neg (c := Y'.1 ≠ q0) (fun h => h z), if_neg (c := Y'.1 ≠ q0) (fun h => h z)]
              exact .inr (.inr (.inr ⟨_, _, rfl, rfl, rfl⟩))
            · rw [if_pos (c := Y'.1 ≠ q0) z, if_pos (c := Y'.1 ≠ q0) z]
              exact .inl go
        · rintro ⟨X, i⟩ ⟨Y, j⟩ ⟨r1, r2, r3, -, -⟩
          dsimp only at r1 r2 r3 ⊢
          subst r3
          have n3 : fn_234 b < i := ti_lt.mpr (by rw [ef]; split at r1 <;> split <;> omega)
          unfold fn_127_58b fn_242_29b
          rw [if_pos n3]
          by_cases n1 : b + 360 ≤ i
          · rw [if_pos n1]
            exact ⟨_, _, rfl, rfl, rfl⟩
          · rw [if_neg n1, if_pos (c := (36000 : Int32) ≤ i) (aa_le32.mpr (by rw [i_36]; have := mt aa_le32.mpr n1; split at r1 <;> omega))]
            exact ⟨_, _, rfl, rfl, rfl⟩
    · have E1 : (fn_127 g a d b).1 = -1 := by
        unfold fn_127
        rw [c1]
        dsimp only
        simp only [gd_91z W, ne_eq, ti_77z, ti_193z, ti_14z, ti_154z, gd_66z, gd_199z, Decidable.not_not, i_0, i_1, i_2, i_3, i_11, i_12n, i_15, i_23, i_60, i_360, i_864, i_8640, i_35, eq_self, not_true_eq_false, not_false_eq_true, and_self, or_self, if_true, if_false]
        repeat' split
        all_goals first | rfl | (exfalso; omega)
      have E2 : (fn_242 g2 a d b).1 = -1 := by
        unfold fn_242
        simp only [gd_191z W2, gd_192z W2, ti_204 W2.2.1, ne_eq, ti_77z, ti_193z, ti_14z, ti_154z, gd_66z, gd_199z, Decidable.not_not, i_0, i_1, i_2, i_3, i_11, i_12n, i_15, i_23, i_60, i_360, i_864, i_8640, i_35, eq_self, not_true_eq_false, not_false_eq_true, and_self, or_self, if_true, if_false, e0, e1, ha]
        repeat' split
        all_goals first | rfl | (exfalso; omega)
      rw [E1, E2]
  · have E1 : (fn_127 g a d b).1 = -1 := by
      unfold fn_127
      simp only [gt_n W ha]
    have E2 : (fn_242 g2 a d b).1 = -1 := by
      unfold fn_242
      simp only [gd_191z W2, gd_192z W2, ti_204 W2.2.1, ne_eq, ti_77z, ti_193z, ti_14z, ti_154z, gd_66z, gd_199z, Decidable.not_not, i_0, i_1, i_2, i_3, i_11, i_12n, i_15, i_23, i_60, i_360, i_864, i_8640, i_35, eq_self, not_true_eq_false, not_false_eq_true, and_self, or_self, if_true, if_false, e0, e1]
      repeat' split
      all_goals first | rfl | (exfalso; omega)
    rw [E1, E2]
theorem lq_127 {g : aa_G} {a0 a1 a2 : Int32} (hi : aa_inv g) (hφ : aa_Phi g) (hR : lr_R g) : lq_ok true 127 242 [.int a0, .int a1, .int a2] g :=
  lq_ask (y := fn_242 (fn_127 g a0 a1 a2).2 a0 a1 a2) hi hφ hR (ko_fw (ko_127 hi hφ) fun _ _ _ r => dn_127 r) (fun i1 p1 => ko_fw (ko_242 i1 p1) fun _ _ _ r => dn_242 r) (by decide +kernel) (by decide +kernel) (by decide +kernel) (by decide +kernel) (by decide +kernel) (by decide +kernel) fun W W2 e => ak_127 W W2 e a0 a1 a2
