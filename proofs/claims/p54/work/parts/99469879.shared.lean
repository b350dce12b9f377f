/-! (135, 235): both sides say the same -/
theorem sh_max {p x : Int32} : (if x ≤ p then p else x) = if p < x then x else p := by
  by_cases z : x ≤ p
  · rw [if_pos z, if_neg (fun h => Int32.not_le.mpr h z)]
  · rw [if_neg z, if_pos (Int32.not_le.mp z)]
theorem sh_min {q y : Int32} : (if q ≤ y then q else y) = if y < q then y else q := by
  by_cases z : q ≤ y
  · rw [if_pos z, if_neg (fun h => Int32.not_le.mpr h z)]
  · rw [if_neg z, if_pos (Int32.not_le.mp z)]
theorem sh_ap {α : Type} {c : Prop} {ip : Decidable c} {f : Int32 → α} {x y : Int32} : @ite α c ip (f x) (f y) = f (@ite Int32 c ip x y) := by
  by_cases z : c
  · rw [if_pos z, if_pos z]
  · rw [if_neg z, if_neg z]
theorem i_lat {x o p : Int32} : x - (o - p) = x - o + p := by
  simp only [Int32.sub_eq_add_neg, i_ng, Int32.neg_neg, Int32.add_assoc, Int32.add_comm, i_lc]
theorem ak_135 {g g2 : aa_G} (W : wd_g g) (W2 : wd_g g2) (e : g2 541 = g 541) (a b k : Int32) : (fn_135 g a b k).1 = (fn_235 g2 a b k).1 := by
  have e0 : g2 541 0 = g 541 0 := by rw [e]
  have e1 : g2 541 1 = g 541 1 := by rw [e]
  rcases gk_at W a with ⟨t1, t2, ⟨ht1, hat1, hu1⟩, ⟨ht2, hat2, hu2⟩, ⟨c1, c2⟩, ha1, ha2, ha3⟩ | ⟨c1, hk⟩
  · have k0 : ¬ fn_239 g2 a = 0 := fun z => (gd_239z W2).mp z (by rw [e0]; exact ⟨ha1, ha2, ha3⟩)
    by_cases hG : (0 ≤ b.toInt ∧ b.toInt ≤ 35999) ∧ (0 ≤ k.toInt ∧ k.toInt ≤ 1)
    · have hG0 := hG
      obtain ⟨hb, hk⟩ := hG0
      have E1 : fn_135 g a b k = fn_135_53 (fn_78 g 461 (some (5 * t1 + 14)) b 0) b k (5 * t1 + 14) (5 * t2 + 14) := by
        unfold fn_135
        rw [c1, c2]
        dsimp only
        simp only [gd_91z W, ne_eq, ti_77z, ti_193z, ti_14z, ti_154z, gd_66z, gd_199z, Decidable.not_not, i_0, i_1, i_2, i_3, i_11, i_12n, i_15, i_23, i_60, i_360, i_864, i_8640, i_35, eq_self, not_true_eq_false, not_false_eq_true, and_self, or_self, if_true, if_false, hb, hk]
      have E2 : fn_235 g2 a b k = fn_235_57 (fn_194 g2 (a / 4) b 0).2 a b k (fn_194 g2 (a / 4) b 0).1 := by
        unfold fn_235
        simp only [gd_192z W2, k0, ti_204 W2.2.1, ne_eq, ti_77z, ti_193z, ti_14z, ti_154z, gd_66z, gd_199z, Decidable.not_not, i_0, i_1, i_2, i_3, i_11, i_12n, i_15, i_23, i_60, i_360, i_864, i_8640, i_35, eq_self, not_true_eq_false, not_false_eq_true, and_self, or_self, if_true, if_false, e0, e1, ha1, ha2, ha3, hb, hk]
      rw [E1, E2]
      rw [hat1]
      obtain ⟨w1, w2, -, v1, -⟩ := lv_look 461 b 0 W hu1 (by omega) (.inl rfl)
      obtain ⟨y1, y2, -, v2⟩ := lv_half b 0 W2 (t := t1) (by rw [e0]; exact hu1) (.inl rfl)
      rw [e, i_0] at v2
      rw [i_0] at v1
      have y2 := y2.trans e
      generalize fn_78 g 461 (some (5 * t1 + 14)) b 0 = X0 at w1 w2 v1 ⊢
      generalize fn_194 g2 (Int32.ofNat t1) b 0 = Y0 at y1 y2 v2 ⊢
      unfold fn_135_53 fn_135_62 fn_235_57
      cases hq : hv_t (g 541) t1 b.toInt 0 with
      | none =>
        rw [hq] at v1 v2
        rw [if_neg (c := Y0.1 ≠ 0) (fun z => z (lv_m0 v2)), lp_r (r := (0, X0)) (by
          dsimp only
          unfold fn_135_62b fn_135_195
          rw [if_neg (c := (1 : Int32) < -1) (by decide), if_pos (lv_c0 v1)]
          split <;> rfl)]
      | some r =>
        obtain ⟨u, l⟩ := r
        rw [hq] at v1 v2
        obtain ⟨m1, m3, m4⟩ := v1
        obtain ⟨n1, n3, n4⟩ := v2
        have hu := hv_b W hu1 hq
        have hu4 := hu.2.2.2.1 (by decide)
        have q3 : X0 461 3 = Y0.2 540 17 := ti_eq.mpr (m3.trans n3.symm)
        have q4 : X0 461 4 = Y0.2 540 18 := ti_eq.mpr (m4.trans n4.symm)
        rw [if_pos (c := Y0.1 ≠ 0) (by rw [n1]; decide)]
        unfold fn_235_90
        have ox := (W.2.2.2.2.2 t1 hu1).2.2.1
        have oy := (W.2.2.2.2.2 t2 hu2).2.2.1
        have pu : (Y0.2 540 17).toInt = u := n3
        have epq : (Y0.2 540 17 + Y0.2 540 18).toInt = u + l := by rw [aa_add32 (by omega) (by omega), n3, n4]
        refine lp_two1 (fun (n' : Nat) (s t' : aa_G × Int32 × Int32 × Int32) => s.2.2.2.toInt + n' = 2 ∧ -1 ≤ s.2.2.2.toInt ∧ (s.2.1 = t'.2.1 ∧ s.2.2.1 = t'.2.2.1) ∧ t'.2.2.2 = b + s.2.2.2 ∧ (wd_g s.1 ∧ s.1 541 = g 541 ∧ s.1 461 0 = 1 ∧ s.1 461 3 = Y0.2 540 17 ∧ s.1 461 4 = Y0.2 540 18) ∧ (wd_g t'.1 ∧ t'.1 541 = g 541)) ?_ ?_ 3 _ _ ⟨by first | decide | (dsimp only; decide), by first | decide | (dsimp only; decide), ⟨rfl, rfl⟩, by show b - 1 = b + -1; rw [Int32.sub_eq_add_neg], ⟨w1, w2, m1, q3, q4⟩, y1, y2⟩
        · rintro n' ⟨X, c, w, i⟩ ⟨Y, c', w', j⟩ ⟨r1, r2, ⟨r3, r4⟩, r5, ⟨w1, w2, x0, x3, x4⟩, w3, w4⟩
          dsimp only at r1 r2 r3 r4 r5 w1 w2 x0 x3 x4 w3 w4 ⊢
          subst r3 r4 r5
          have ei : (b + i).toInt = b.toInt + i.toInt := aa_add32 (by omega) (by omega)
          have ef : (b + 1).toInt = b.toInt + 1 := aa_add32 (by rw [i_1]; omega) (by rw [i_1]; omega)
          have es : (i + 1).toInt = i.toInt + 1 := i_suc (by omega) (by omega)
          have n1 : ¬ (1 : Int32) < i := fun z => by have := ti_lt.mp z; rw [i_1] at this; omega
          have n2 : ¬ b + 1 < b + i := fun z => by have := ti_lt.mp z; omega
          have n3 : ¬ X 461 0 = 0 := by rw [x0]; decide
          obtain ⟨p1, p2, p3, v1, -⟩ := lv_look 462 (b + i) 0 w1 (t := t2) (by rw [w2]; exact hu2) (by omega) (.inl rfl)
          obtain ⟨z1, z2, -, v2⟩ := lv_half (b + i) 0 w3 (t := t2) (by rw [w4]; exact hu2) (.inl rfl)
          rw [w2, i_0] at v1
          rw [w4, i_0] at v2
          unfold fn_135_62b fn_235_90b
          rw [if_neg n1, if_neg n2, if_neg n3, hat2]
          have o : fn_94 (fn_78 X 462 (some (5 * t2 + 14)) (b + i) 0) (5 * t1 + 14) (5 * t2 + 14) = g 541 (50 * t2 + 3) - g 541 (50 * t1 + 3) := by
            unfold fn_94
            rw [p3 _ _ (by omega), p3 _ _ (by omega), (w1.2.2.2.2.2 t1 (by rw [w2]; exact hu1)).1, (w1.2.2.2.2.2 t2 (by rw [w2]; exact hu2)).1, w2]
          have x0' := (p3 461 0 (by omega)).trans x0
          have x3' := (p3 461 3 (by omega)).trans x3
          have x4' := (p3 461 4 (by omega)).trans x4
          have p2 := p2.trans w2
          have z2 := z2.trans w4
          unfold fn_135_92 fn_135_129 fn_135_159 fn_135_189 fn_235_108
          rw [o, x3', x4', hat2, hat1, of_209 t1 ht1, of_209 t2 ht2, z2]
          generalize fn_78 X 462 (some (5 * t2 + 14)) (b + i) 0 = X' at p1 p2 v1 x0' x3' x4' ⊢
          generalize fn_194 Y (Int32.ofNat t2) (b + i) 0 = Y' at z1 z2 v2 ⊢
          have eb : b + i - b = i := by rw [Int32.add_comm, Int32.add_sub_cancel]
          have ea : b + i + 1 = b + (i + 1) := Int32.add_assoc b i 1
          rw [eb, i_lat]
          cases hr : hv_t (g 541) t2 (b + i).toInt 0 with
          | none =>
            rw [hr] at v1 v2
            unfold fn_235_203
            rw [if_pos (lv_c0 v1), if_neg (c := Y'.1 ≠ 0) (fun z => z (lv_m0 v2)), ea]
            exact .inl ⟨_, _, rfl, rfl, by first | omega | (dsimp only; omega), by first | omega | (dsimp only; omega), ⟨rfl, rfl⟩, rfl, ⟨p1, p2, x0', x3', x4'⟩, z1, z2⟩
          | some r =>
            obtain ⟨u', l'⟩ := r
            rw [hr] at v1 v2
            have hv := hv_b W hu2 hr
            have hv4 := hv.2.2.2.1 (by decide)
            rw [if_neg (c := X' 462 0 = 0) (by rw [lv_c1 v1]; decide), if_pos (c := Y'.1 ≠ 0) (by rw [lv_m1 v2]; decide), lv_3 v1 v2, lv_4 v1 v2]
            obtain ⟨-, k3, k4⟩ := v2
            have m1 : (i * 86400).toInt = i.toInt * 86400 := by rw [ti_mul (by rw [i_864]; omega) (by rw [i_864]; omega), i_864]
            have m2 : (Y'.2 540 17 + i * 86400).toInt = u' + i.toInt * 86400 := by rw [aa_add32 (by omega) (by omega), m1, k3]
            have m3 : (Y'.2 540 17 + i * 86400 - g 541 (50 * t2 + 3)).toInt = u' + i.toInt * 86400 - (g 541 (50 * t2 + 3)).toInt := by rw [aa_sub32 (by omega) (by omega), m2]
            have m4 : (Y'.2 540 17 + i * 86400 - g 541 (50 * t2 + 3) + g 541 (50 * t1 + 3)).toInt = u' + i.toInt * 86400 - (g 541 (50 * t2 + 3)).toInt + (g 541 (50 * t1 + 3)).toInt := by rw [aa_add32 (by omega) (by omega), m3]
            generalize Y'.2 540 17 + i * 86400 - g 541 (50 * t2 + 3) + g 541 (50 * t1 + 3) = x at m4 ⊢
            have m5 : (x + Y'.2 540 18).toInt = x.toInt + l' := by rw [aa_add32 (by omega) (by omega), k4]
            generalize x + Y'.2 540 18 = y at m5 ⊢
            generalize hp : Y0.2 540 17 = p at pu epq ⊢
            generalize hpq : p + Y0.2 540 18 = pq at epq ⊢
            unfold fn_235_168
            rw [sh_ap (f := fun s1 => if x ≤ p then fn_235_182 Y'.2 a b k p pq c w (b + i) p s1 else fn_235_182 Y'.2 a b k p pq c w (b + i) x s1), sh_min]
            rw [sh_ap (f := fun s0 => fn_235_182 Y'.2 a b k p pq c w (b + i) s0 (if y < pq then y else pq)), sh_max]
            unfold fn_235_182 fn_235_203
            have f1 : (if p < x then x else p).toInt = if p.toInt < x.toInt then x.toInt else p.toInt := by
              by_cases z : p < x
              · rw [if_pos z, if_pos (ti_lt.mp z)]
              · rw [if_neg z, if_neg (mt ti_lt.mpr z)]
            have f2 : (if y < pq then y else pq).toInt = if y.toInt < pq.toInt then y.toInt else pq.toInt := by
              by_cases z : y < pq
              · rw [if_pos z, if_pos (ti_lt.mp z)]
              · rw [if_neg z, if_neg (mt ti_lt.mpr z)]
            generalize (if p < x then x else p) = F at f1 ⊢
            generalize (if y < pq then y else pq) = T at f2 ⊢
            have F1 : -1000000 ≤ F.toInt ∧ F.toInt ≤ 1000000 := by rw [f1]; split <;> omega
            have T1 : -1000000 ≤ T.toInt ∧ T.toInt ≤ 1000000 := by rw [f2]; split <;> omega
            have d1 : (T - F).toInt = T.toInt - F.toInt := aa_sub32 (by omega) (by omega)
            rw [ea]
            by_cases z : T ≤ F
            · have := aa_le32.mp z
              rw [if_pos z, if_neg (c := (0 : Int32) < T - F) (fun h => by have := ti_lt.mp h; rw [d1, i_0] at this; omega)]
              exact .inl ⟨_, _, rfl, rfl, by first | omega | (dsimp only; omega), by first | omega | (dsimp only; omega), ⟨rfl, rfl⟩, rfl, ⟨p1, p2, x0', by rw [hp] at x3'; exact x3', x4'⟩, z1, z2⟩
            · have := mt aa_le32.mpr z
              rw [if_neg z, if_pos (c := (0 : Int32) < T - F) (ti_lt.mpr (by rw [d1, i_0]; omega))]
              exact .inl ⟨_, _, rfl, rfl, by first | omega | (dsimp only; omega), by first | omega | (dsimp only; omega), ⟨rfl, rfl⟩, rfl, ⟨p1, p2, x0', by rw [hp] at x3'; exact x3', x4'⟩, z1, z2⟩
        · rintro ⟨X, c, w, i⟩ ⟨Y, c', w', j⟩ ⟨r1, r2, ⟨r3, r4⟩, r5, -⟩
          dsimp only at r1 r2 r3 r4 r5 ⊢
          subst r3 r4 r5
          have ei : (b + i).toInt = b.toInt + i.toInt := aa_add32 (by omega) (by omega)
          have ef : (b + 1).toInt = b.toInt + 1 := aa_add32 (by rw [i_1]; omega) (by rw [i_1]; omega)
          unfold fn_135_62b fn_235_90b fn_135_195
          rw [if_pos (c := (1 : Int32) < i) (ti_lt.mpr (by rw [i_1]; omega)), if_pos (c := b + 1 < b + i) (ti_lt.mpr (by omega))]
          by_cases k0 : k = 0
          · rw [if_neg (fun z => z k0), if_neg (fun z => z k0)]
            exact ⟨_, _, rfl, rfl, rfl⟩
          · rw [if_pos k0, if_pos k0]
            exact ⟨_, _, rfl, rfl, rfl⟩
    · have E1 : (fn_135 g a b k).1 = -1 := by
        unfold fn_135
        rw [c1, c2]
        dsimp only
        simp only [gd_91z W, ne_eq, ti_77z, ti_193z, ti_14z, ti_154z, gd_66z, gd_199z, Decidable.not_not, i_0, i_1, i_2, i_3, i_11, i_12n, i_15, i_23, i_60, i_360, i_864, i_8640, i_35, eq_self, not_true_eq_false, not_false_eq_true, and_self, or_self, if_true, if_false]
        repeat' split
        all_goals first | rfl | (exfalso; omega)
      have E2 : (fn_235 g2 a b k).1 = -1 := by
        unfold fn_235
        simp only [gd_192z W2, k0, ti_204 W2.2.1, ne_eq, ti_77z, ti_193z, ti_14z, ti_154z, gd_66z, gd_199z, Decidable.not_not, i_0, i_1, i_2, i_3, i_11, i_12n, i_15, i_23, i_60, i_360, i_864, i_8640, i_35, eq_self, not_true_eq_false, not_false_eq_true, and_self, or_self, if_true, if_false, e0, e1, ha1, ha2, ha3]
        repeat' split
        all_goals first | rfl | (exfalso; omega)
      rw [E1, E2]
  · have E1 : (fn_135 g a b k).1 = -1 := by
      unfold fn_135
      rcases c1 with c1 | c1
      · rw [c1]
        cases fn_134 g a <;> rfl
      · rw [c1]
        cases fn_133 g a <;> rfl
    have k0 : fn_239 g2 a = 0 := (gd_239z W2).mpr (by rw [e0]; exact hk)
    have E2 : (fn_235 g2 a b k).1 = -1 := by
      unfold fn_235
      simp only [gd_192z W2, k0, ne_eq, ti_77z, ti_193z, ti_14z, ti_154z, gd_66z, gd_199z, Decidable.not_not, i_0, i_1, i_2, i_3, i_11, i_12n, i_15, i_23, i_60, i_360, i_864, i_8640, i_35, eq_self, not_true_eq_false, not_false_eq_true, and_self, or_self, if_true, if_false, e0, e1]
      repeat' split
      all_goals first | rfl | (exfalso; omega)
    rw [E1, E2]
theorem lq_135 {g : aa_G} {a0 a1 a2 : Int32} (hi : aa_inv g) (hφ : aa_Phi g) (hR : lr_R g) : lq_ok true 135 235 [.int a0, .int a1, .int a2] g :=
  lq_ask (y := fn_235 (fn_135 g a0 a1 a2).2 a0 a1 a2) hi hφ hR (ko_fw (ko_135 hi hφ) fun _ _ _ r => dn_135 r) (fun i1 p1 => ko_fw (ko_235 i1 p1) fun _ _ _ r => dn_235 r) (by decide +kernel) (by decide +kernel) (by decide +kernel) (by decide +kernel) (by decide +kernel) (by decide +kernel) fun W W2 e => ak_135 W W2 e a0 a1 a2
