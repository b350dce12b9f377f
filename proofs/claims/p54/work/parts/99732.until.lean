/-! (101, 250): both sides say the same -/
theorem un_v {g X Y : aa_G} {t : Nat} {d h n : Int32} (W : wd_g g) (ht : (t : Int) < (g 541 0).toInt) (hh : 0 ≤ h.toInt ∧ h.toInt ≤ 1) (hn : 0 ≤ n.toInt ∧ n.toInt ≤ 12 * (g 541 1).toInt - 1) (WX : wd_g X) (eX : X 541 = g 541) (WY : wd_g Y) (eY : Y 541 = g 541) : (wd_g (fn_78 X 461 (some (5 * t + 14)) d h) ∧ (fn_78 X 461 (some (5 * t + 14)) d h) 541 = g 541 ∧ fn_92 (fn_78 X 461 (some (5 * t + 14)) d h) 461 n ((fn_78 X 461 (some (5 * t + 14)) d h) 2 1) = sp_b (g 541 1) n (hv_t (g 541) t d.toInt h.toInt)) ∧ (wd_g (fn_205 Y (Int32.ofNat t) d h n).2 ∧ (fn_205 Y (Int32.ofNat t) d h n).2 541 = g 541 ∧ (fn_205 Y (Int32.ofNat t) d h n).1 = sp_b (g 541 1) n (hv_t (g 541) t d.toInt h.toInt)) := by
  obtain ⟨u1, u2, u3, v1, -⟩ := lv_look 461 d h WX (by rw [eX]; exact ht) (by omega) (h01 hh)
  rw [eX] at v1
  have q21 : (fn_78 X 461 (some (5 * t + 14)) d h) 2 1 = g 541 1 := by
    rw [u3 2 1 (by omega), WX.2.2.2.1, eX]
  obtain ⟨v, f⟩ := mk_205 (b := d) (h := h) (n := n) WY (by rw [eY]; exact ht) hh (by rw [eY]; exact hn)
  rw [eY] at v
  refine ⟨⟨u1, u2.trans eX, ?_⟩, wd_of WY (fun k j z => f k j (by omega)), (funext fun j => f 541 j (by omega)).trans eY, v⟩
  rw [q21]
  exact ck_92 W ht hn v1
theorem ak_101 {g g2 : aa_G} (W : wd_g g) (W2 : wd_g g2) (e : g2 541 = g 541) (a b c h n : Int32) : (fn_101 g a b c h n).1 = (fn_250 g2 a b c h n).1 := by
  have e0 : g2 541 0 = g 541 0 := by rw [e]
  have e1 : g2 541 1 = g 541 1 := by rw [e]
  by_cases ha : 0 ≤ a.toInt ∧ a.toInt < (g 541 0).toInt
  · obtain ⟨t, ht, hat, ht2, c1, -⟩ := gt_s W ha
    by_cases hG : (0 ≤ b.toInt ∧ b.toInt ≤ 35999) ∧ (0 ≤ c.toInt ∧ c.toInt ≤ 86399) ∧ ((0 ≤ h.toInt ∧ h.toInt ≤ 1) ∧ (0 ≤ n.toInt ∧ n.toInt ≤ 12 * (g 541 1).toInt - 1))
    · have hG0 := hG
      obtain ⟨hb, hc, hp⟩ := hG0
      have E1 : fn_101 g a b c h n = fn_101_45 g b c h n (5 * t + 14) (-1) := by
        unfold fn_101
        rw [c1]
        dsimp only
        simp only [gd_91z W, ne_eq, ti_77z, ti_193z, ti_14z, ti_154z, gd_66z, gd_199z, Decidable.not_not, i_0, i_1, i_2, i_3, i_11, i_12n, i_15, i_23, i_60, i_360, i_864, i_8640, i_35, eq_self, not_true_eq_false, not_false_eq_true, and_self, or_self, if_true, if_false, hb, hc, hp]
      have E2 : fn_250 g2 a b c h n = fn_250_34 g2 a b c h n (b - 1) := by
        unfold fn_250
        simp only [gd_191z W2, gd_192z W2, ti_204 W2.2.1, ne_eq, ti_77z, ti_193z, ti_14z, ti_154z, gd_66z, gd_199z, Decidable.not_not, i_0, i_1, i_2, i_3, i_11, i_12n, i_15, i_23, i_60, i_360, i_864, i_8640, i_35, eq_self, not_true_eq_false, not_false_eq_true, and_self, or_self, if_true, if_false, e0, e1, ha, hb, hc, hp]
      rw [E1, E2]
      rw [hat]
      obtain ⟨hh, hn⟩ := hp
      unfold fn_101_45 fn_250_34
      refine lp_two1 (fun (n' : Nat) (s t' : aa_G × Int32) => s.2.toInt + n' = 3 ∧ -1 ≤ s.2.toInt ∧ t'.2 = b + s.2 ∧ (wd_g s.1 ∧ s.1 541 = g 541) ∧ (wd_g t'.1 ∧ t'.1 541 = g 541)) ?_ ?_ 4 _ _ ⟨by first | decide | (dsimp only; decide), by first | decide | (dsimp only; decide), by show b - 1 = b + -1; rw [Int32.sub_eq_add_neg], ⟨W, rfl⟩, ⟨W2, e⟩⟩
      · rintro m ⟨X, i⟩ ⟨Y, j⟩ ⟨r1, r2, r3, ⟨w1, w2⟩, w3, w4⟩
        dsimp only at r1 r2 r3 w1 w2 w3 w4 ⊢
        subst r3
        have ei : (b + i).toInt = b.toInt + i.toInt := aa_add32 (by omega) (by omega)
        have n1 : ¬ (2 : Int32) < i := fun z => by have := ti_lt.mp z; rw [i_2] at this; omega
        have e2 : (b + 2).toInt = b.toInt + 2 := aa_add32 (by rw [i_2]; omega) (by rw [i_2]; omega)
        have n2 : ¬ b + 2 < b + i := fun z => by have := ti_lt.mp z; omega
        have es : (i + 1).toInt = i.toInt + 1 := i_suc (by omega) (by omega)
        obtain ⟨⟨x1, x2, x3⟩, y1, y2, y3⟩ := un_v (d := b + i) (h := h) (n := n) W ht2 hh hn w1 w2 w3 w4
        have bd := sp_bu (b := (b + i).toInt) (h := h.toInt) W ht2 hn
        unfold fn_101_45b fn_250_34b
        rw [if_neg n1, if_neg n2]
        generalize fn_78 X 461 (some (5 * t + 14)) (b + i) h = X' at x1 x2 x3 ⊢
        generalize fn_205 Y (Int32.ofNat t) (b + i) h n = Y' at y1 y2 y3 ⊢
        unfold fn_101_66 fn_250_53 fn_101_114 fn_250_84
        rw [x3, y3]
        generalize sp_b (g 541 1) n (hv_t (g 541) t (b + i).toInt h.toInt) = v at bd ⊢
        have eb : b + i - b = i := by rw [Int32.add_comm, Int32.add_sub_cancel]
        have ea : b + i + 1 = b + (i + 1) := Int32.add_assoc b i 1
        rw [eb, ea]
        by_cases z : v = -2
        · rw [if_pos z, if_pos z]
          exact .inl ⟨_, _, rfl, rfl, by first | omega | (dsimp only; omega), by first | omega | (dsimp only; omega), rfl, ⟨x1, x2⟩, y1, y2⟩
        · have bd := bd.resolve_left z
          rw [if_neg z, if_neg z]
          have m1 : (i * 86400).toInt = i.toInt * 86400 := by rw [ti_mul (by rw [i_864]; omega) (by rw [i_864]; omega), i_864]
          have m2 : (v + i * 86400).toInt = v.toInt + i.toInt * 86400 := by rw [aa_add32 (by omega) (by omega), m1]
          have m3 : i * 86400 + v = v + i * 86400 := Int32.add_comm _ _
          have m4 : (v + i * 86400 - c).toInt = v.toInt + i.toInt * 86400 - c.toInt := by rw [aa_sub32 (by omega) (by omega), m2]
          rw [m3]
          by_cases z2 : v + i * 86400 < c
          · have := ti_lt.mp z2
            rw [if_pos z2, if_pos (c := v + i * 86400 - c < 0) (ti_lt.mpr (by rw [m4, i_0]; omega))]
            exact .inl ⟨_, _, rfl, rfl, by first | omega | (dsimp only; omega), by first | omega | (dsimp only; omega), rfl, ⟨x1, x2⟩, y1, y2⟩
          · have := mt ti_lt.mpr z2
            rw [if_neg z2, if_neg (c := v + i * 86400 - c < 0) (fun z => by have := ti_lt.mp z; rw [m4, i_0] at this; omega)]
            exact .inr (.inr (.inr ⟨_, _, rfl, rfl, rfl⟩))
      · rintro ⟨X, i⟩ ⟨Y, j⟩ ⟨r1, r2, r3, -, -⟩
        dsimp only at r1 r2 r3 ⊢
        subst r3
        have ei : (b + i).toInt = b.toInt + i.toInt := aa_add32 (by omega) (by omega)
        have e2 : (b + 2).toInt = b.toInt + 2 := aa_add32 (by rw [i_2]; omega) (by rw [i_2]; omega)
        unfold fn_101_45b fn_250_34b
        rw [if_pos (c := (2 : Int32) < i) (ti_lt.mpr (by rw [i_2]; omega)), if_pos (c := b + 2 < b + i) (ti_lt.mpr (by omega))]
        exact ⟨_, _, rfl, rfl, rfl⟩
    · have E1 : (fn_101 g a b c h n).1 = -1 := by
        unfold fn_101
        rw [c1]
        dsimp only
        simp only [gd_91z W, ne_eq, ti_77z, ti_193z, ti_14z, ti_154z, gd_66z, gd_199z, Decidable.not_not, i_0, i_1, i_2, i_3, i_11, i_12n, i_15, i_23, i_60, i_360, i_864, i_8640, i_35, eq_self, not_true_eq_false, not_false_eq_true, and_self, or_self, if_true, if_false]
        repeat' split
        all_goals first | rfl | (exfalso; omega)
      have E2 : (fn_250 g2 a b c h n).1 = -1 := by
        unfold fn_250
        simp only [gd_191z W2, gd_192z W2, ti_204 W2.2.1, ne_eq, ti_77z, ti_193z, ti_14z, ti_154z, gd_66z, gd_199z, Decidable.not_not, i_0, i_1, i_2, i_3, i_11, i_12n, i_15, i_23, i_60, i_360, i_864, i_8640, i_35, eq_self, not_true_eq_false, not_false_eq_true, and_self, or_self, if_true, if_false, e0, e1, ha]
        repeat' split
        all_goals first | rfl | (exfalso; omega)
      rw [E1, E2]
  · have E1 : (fn_101 g a b c h n).1 = -1 := by
      unfold fn_101
      simp only [gt_n W ha]
    have E2 : (fn_250 g2 a b c h n).1 = -1 := by
      unfold fn_250
      simp only [gd_191z W2, gd_192z W2, ti_204 W2.2.1, ne_eq, ti_77z, ti_193z, ti_14z, ti_154z, gd_66z, gd_199z, Decidable.not_not, i_0, i_1, i_2, i_3, i_11, i_12n, i_15, i_23, i_60, i_360, i_864, i_8640, i_35, eq_self, not_true_eq_false, not_false_eq_true, and_self, or_self, if_true, if_false, e0, e1]
      repeat' split
      all_goals first | rfl | (exfalso; omega)
    rw [E1, E2]
theorem lq_101 {g : aa_G} {a0 a1 a2 a3 a4 : Int32} (hi : aa_inv g) (hφ : aa_Phi g) (hR : lr_R g) : lq_ok true 101 250 [.int a0, .int a1, .int a2, .int a3, .int a4] g :=
  lq_ask (y := fn_250 (fn_101 g a0 a1 a2 a3 a4).2 a0 a1 a2 a3 a4) hi hφ hR (ko_fw (ko_101 hi hφ) fun _ _ _ r => dn_101 r) (fun i1 p1 => ko_fw (ko_250 i1 p1) fun _ _ _ r => dn_250 r) (by decide +kernel) (by decide +kernel) (by decide +kernel) (by decide +kernel) (by decide +kernel) (by decide +kernel) fun W W2 e => ak_101 W W2 e a0 a1 a2 a3 a4
