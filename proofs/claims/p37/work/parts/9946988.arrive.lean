/-! (136, 238), (137, 240): both sides say the same -/
/-- the model's way from one town's time to another one's -/
theorem mk_208x {g : aa_G} {t t2 : Nat} {b : Int32} {c : Int64} (W : wd_g g) (ht : (t : Int) < (g 541 0).toInt) (ht2 : (t2 : Int) < (g 541 0).toInt) (hb : 0 ≤ b.toInt ∧ b.toInt ≤ 35999) (hc : 0 ≤ c.toInt ∧ c.toInt ≤ 2000000) : ((fn_208 g (Int32.ofNat t) b.toInt64 c (Int32.ofNat t2)) 540 22).toInt = b.toInt + (c.toInt + ((g 541 (50 * t2 + 3)).toInt - (g 541 (50 * t + 3)).toInt)) / 86400 ∧ ((fn_208 g (Int32.ofNat t) b.toInt64 c (Int32.ofNat t2)) 540 23).toInt = (c.toInt + ((g 541 (50 * t2 + 3)).toInt - (g 541 (50 * t + 3)).toInt)) % 86400 ∧ ∀ k j, ¬ (k = 540 ∧ 22 ≤ j ∧ j ≤ 23) → (fn_208 g (Int32.ofNat t) b.toInt64 c (Int32.ofNat t2)) k j = g k j := by
  have n4 := W.1
  have o1 := (W.2.2.2.2.2 t ht).2.2.1
  have o2 := (W.2.2.2.2.2 t2 ht2).2.2.1
  have t0 : (86400 : Int64).toInt = 86400 := rfl
  have e9 : fn_209 g (Int32.ofNat t) = g 541 (50 * t + 3) := of_209 t (by omega)
  have e9' : fn_209 g (Int32.ofNat t2) = g 541 (50 * t2 + 3) := of_209 t2 (by omega)
  generalize hG : fn_208 g (Int32.ofNat t) b.toInt64 c (Int32.ofNat t2) = G
  unfold fn_208 at hG
  rw [e9, e9'] at hG
  have x1 : (b.toInt64 * 86400).toInt = b.toInt * 86400 := by rw [l_mul (by rw [t0, l_of]; omega) (by rw [t0, l_of]; omega), t0, l_of]
  have x2 : (b.toInt64 * 86400 + c).toInt = b.toInt * 86400 + c.toInt := by rw [l_add (by rw [x1]; omega) (by rw [x1]; omega), x1]
  have x3 : (b.toInt64 * 86400 + c - (g 541 (50 * t + 3)).toInt64).toInt = b.toInt * 86400 + c.toInt - (g 541 (50 * t + 3)).toInt := by rw [l_sub (by rw [x2, l_of]; omega) (by rw [x2, l_of]; omega), x2, l_of]
  have x4 : (b.toInt64 * 86400 + c - (g 541 (50 * t + 3)).toInt64 + (g 541 (50 * t2 + 3)).toInt64).toInt = b.toInt * 86400 + c.toInt - (g 541 (50 * t + 3)).toInt + (g 541 (50 * t2 + 3)).toInt := by rw [l_add (by rw [x3, l_of]; omega) (by rw [x3, l_of]; omega), x3, l_of]
  generalize b.toInt64 * 86400 + c - (g 541 (50 * t + 3)).toInt64 + (g 541 (50 * t2 + 3)).toInt64 = X at hG x4
  obtain ⟨s, hs, hG2⟩ := l_floor (by omega) (by omega) G hG.symm
  rw [hG2]
  unfold fn_208_54
  have y1 : (s * 86400).toInt = s.toInt * 86400 := by rw [l_mul (by rw [t0]; omega) (by rw [t0]; omega), t0]
  have y2 : (X - s * 86400).toInt = X.toInt - s.toInt * 86400 := by rw [l_sub (by omega) (by omega), y1]
  refine ⟨?_, ?_, fun k j z => ?_⟩
  · rw [aa_w_ne _ _ (by omega), aa_w_at, l_to (by omega) (by omega), hs, x4]
    omega
  · rw [aa_w_at, l_to (by omega) (by omega), y2, hs, x4]
    omega
  · rw [aa_w_ne _ _ (by omega), aa_w_ne _ _ (by omega)]
theorem tn_198 {G : aa_G} {t : Nat} {d s k : Int32} (W : wd_g G) (ht : t < 4) (ht2 : (t : Int) < (G 541 0).toInt) (hd : 0 ≤ d.toInt ∧ d.toInt ≤ 35999) (hs : 0 ≤ s.toInt ∧ s.toInt ≤ 86399) (hk : 0 ≤ k.toInt ∧ k.toInt ≤ 5) : (fn_198_35 (fn_200 G (Int32.ofNat t) d s).2 k (fn_200 G (Int32.ofNat t) d s).1).1 = sp_12 (G 541) (Int32.ofNat t) d s k := by
  have ha : 0 ≤ (Int32.ofNat t).toInt ∧ (Int32.ofNat t).toInt < (G 541 0).toInt := by rw [zz_ofN (by omega)]; omega
  rw [← mk_198 W]
  have E : fn_198 G (Int32.ofNat t) d s k = fn_198_35 (fn_200 G (Int32.ofNat t) d s).2 k (fn_200 G (Int32.ofNat t) d s).1 := by
    unfold fn_198
    rw [if_neg (c := fn_191 G (Int32.ofNat t) d = 0) (fun z => (gd_191z W).mp z ⟨ha, hd⟩), if_neg (c := fn_199 s = 0) (fun z => gd_199z.mp z hs), if_pos (c := fn_154 k 0 5 ≠ 0) (ti_154n.mpr hk)]
  rw [E]
theorem of_94 {X : aa_G} {t1 t2 : Nat} (W : wd_g X) (h1 : (t1 : Int) < (X 541 0).toInt) (h2 : (t2 : Int) < (X 541 0).toInt) : fn_94 X (5 * t1 + 14) (5 * t2 + 14) = X 541 (50 * t2 + 3) - X 541 (50 * t1 + 3) := by
  unfold fn_94
  rw [(W.2.2.2.2.2 t1 h1).1, (W.2.2.2.2.2 t2 h2).1]
/-- the class's way -/
theorem go_c {g : aa_G} {t1 t2 : Nat} {b c : Int32} (W : wd_g g) (h1 : (t1 : Int) < (g 541 0).toInt) (h2 : (t2 : Int) < (g 541 0).toInt) (hb : 0 ≤ b.toInt ∧ b.toInt ≤ 35999) (hc : 0 ≤ c.toInt ∧ c.toInt ≤ 2000000) : (b + fn_82 (c + (g 541 (50 * t2 + 3) - g 541 (50 * t1 + 3))) 86400).toInt = b.toInt + (c.toInt + ((g 541 (50 * t2 + 3)).toInt - (g 541 (50 * t1 + 3)).toInt)) / 86400 ∧ (fn_81 (c + (g 541 (50 * t2 + 3) - g 541 (50 * t1 + 3))) 86400).toInt = (c.toInt + ((g 541 (50 * t2 + 3)).toInt - (g 541 (50 * t1 + 3)).toInt)) % 86400 := by
  have o1 := (W.2.2.2.2.2 t1 h1).2.2.1
  have o2 := (W.2.2.2.2.2 t2 h2).2.2.1
  have d1 : (g 541 (50 * t2 + 3) - g 541 (50 * t1 + 3)).toInt = (g 541 (50 * t2 + 3)).toInt - (g 541 (50 * t1 + 3)).toInt := aa_sub32 (by omega) (by omega)
  have d2 : (c + (g 541 (50 * t2 + 3) - g 541 (50 * t1 + 3))).toInt = c.toInt + ((g 541 (50 * t2 + 3)).toInt - (g 541 (50 * t1 + 3)).toInt) := by rw [aa_add32 (by omega) (by omega), d1]
  have d3 : (fn_82 (c + (g 541 (50 * t2 + 3) - g 541 (50 * t1 + 3))) 86400).toInt = (c.toInt + ((g 541 (50 * t2 + 3)).toInt - (g 541 (50 * t1 + 3)).toInt)) / 86400 := by rw [ti_82 (by omega) (by decide), d2, i_864]
  exact ⟨by rw [aa_add32 (by omega) (by omega), d3], by rw [ti_81 (by omega) (by decide), d2, i_864]⟩
theorem ak_136 {g g2 : aa_G} (W : wd_g g) (W2 : wd_g g2) (e : g2 541 = g 541) (a b c m k : Int32) : (fn_136 g a b c m k).1 = (fn_238 g2 a b c m k).1 := by
  have e0 : g2 541 0 = g 541 0 := by rw [e]
  have e1 : g2 541 1 = g 541 1 := by rw [e]
  rcases gk_at W a with ⟨t1, t2, ⟨ht1, hat1, hu1⟩, ⟨ht2, hat2, hu2⟩, ⟨c1, c2⟩, ha1, ha2, ha3⟩ | ⟨c1, hk⟩
  · have k0 : ¬ fn_239 g2 a = 0 := fun z => (gd_239z W2).mp z (by rw [e0]; exact ⟨ha1, ha2, ha3⟩)
    by_cases hG : (0 ≤ b.toInt ∧ b.toInt ≤ 35999) ∧ (0 ≤ c.toInt ∧ c.toInt ≤ 86399) ∧ (0 ≤ m.toInt ∧ m.toInt ≤ 864000) ∧ (0 ≤ k.toInt ∧ k.toInt ≤ 3)
    · have hG0 := hG
      obtain ⟨hb, hc, hm, hk⟩ := hG0
      have E1 : fn_136 g a b c m k = (if (fn_77 (b + fn_82 (c + m + fn_94 g (5 * t1 + 14) (5 * t2 + 14)) 86400)) ≠ 0 then if k ≠ 0 then if k ≠ 1 then ((fn_85 g (a - a / 4 * 4) (b + fn_82 (c + m + fn_94 g (5 * t1 + 14) (5 * t2 + 14)) 86400) (fn_81 (c + m + fn_94 g (5 * t1 + 14) (5 * t2 + 14)) 86400) (k - 1)).1, (fn_85 g (a - a / 4 * 4) (b + fn_82 (c + m + fn_94 g (5 * t1 + 14) (5 * t2 + 14)) 86400) (fn_81 (c + m + fn_94 g (5 * t1 + 14) (5 * t2 + 14)) 86400) (k - 1)).2) else ((fn_81 (c + m + fn_94 g (5 * t1 + 14) (5 * t2 + 14)) 86400), g) else ((b + fn_82 (c + m + fn_94 g (5 * t1 + 14) (5 * t2 + 14)) 86400), g) else (-2, g)) := by
        unfold fn_136
        rw [c1, c2]
        dsimp only
        simp only [gd_91z W, ne_eq, ti_77z, ti_193z, ti_14z, ti_154z, gd_66z, gd_199z, Decidable.not_not, i_0, i_1, i_2, i_3, i_11, i_12n, i_15, i_23, i_60, i_360, i_864, i_8640, i_35, eq_self, not_true_eq_false, not_false_eq_true, and_self, or_self, if_true, if_false, hb, hc, hm, hk]
      have E2 : fn_238 g2 a b c m k = fn_238_63 (fn_208 g2 (a / 4) b.toInt64 ((c + m).toInt64) (a - a / 4 * 4)) a k := by
        unfold fn_238
        simp only [gd_192z W2, k0, ti_204 W2.2.1, ne_eq, ti_77z, ti_193z, ti_14z, ti_154z, gd_66z, gd_199z, Decidable.not_not, i_0, i_1, i_2, i_3, i_11, i_12n, i_15, i_23, i_60, i_360, i_864, i_8640, i_35, eq_self, not_true_eq_false, not_false_eq_true, and_self, or_self, if_true, if_false, e0, e1, ha1, ha2, ha3, hb, hc, hm, hk]
      rw [E1, E2]
      rw [of_94 W hu1 hu2]
      have d1 : (c + m).toInt = c.toInt + m.toInt := aa_add32 (by omega) (by omega)
      obtain ⟨p1, p2⟩ := go_c (b := b) (c := c + m) W hu1 hu2 hb (by omega)
      obtain ⟨q1, q2, f⟩ := mk_208x (g := g2) (t := t1) (t2 := t2) (b := b) (c := (c + m).toInt64) W2 (by rw [e0]; exact hu1) (by rw [e0]; exact hu2) hb (by rw [l_of]; omega)
      rw [l_of, e] at q1 q2
      rw [hat2, hat1]
      rw [hat2] at ha3
      generalize fn_208 g2 (Int32.ofNat t1) b.toInt64 (c + m).toInt64 (Int32.ofNat t2) = G at q1 q2 f ⊢
      have x1 := ti_eq.mpr (p1.trans q1.symm)
      have x2 := ti_eq.mpr (p2.trans q2.symm)
      rw [x1, x2]
      have W3 : wd_g G := wd_of W2 (fun k j z => f k j (by omega))
      have e3 : G 541 = g 541 := (funext fun j => f 541 j (by omega)).trans e
      have hs : 0 ≤ (G 540 23).toInt ∧ (G 540 23).toInt ≤ 86399 := by rw [q2]; omega
      unfold fn_238_63
      by_cases z : 0 ≤ (G 540 22).toInt ∧ (G 540 22).toInt ≤ 35999
      · rw [if_pos (c := fn_77 (G 540 22) ≠ 0) (ti_77n.mpr z), if_pos (c := fn_193 (G 540 22) ≠ 0) (ti_193n.mpr z)]
        by_cases k0 : k = 0
        · subst k0
          rw [if_neg (c := (0 : Int32) ≠ 0) (fun h => h rfl), if_neg (c := (2 : Int32) ≤ 0) (by decide), if_neg (c := (0 : Int32) ≠ 0) (fun h => h rfl)]
        · rw [if_pos (c := k ≠ 0) k0]
          by_cases k1 : k = 1
          · subst k1
            rw [if_neg (c := (1 : Int32) ≠ 1) (fun h => h rfl), if_neg (c := (2 : Int32) ≤ 1) (by decide), if_pos (c := (1 : Int32) ≠ 0) (by decide)]
          · have k0' := ti_ne.mp k0
            have k1' := ti_ne.mp k1
            rw [i_0] at k0'
            rw [i_1] at k1'
            have ek : (k - 1).toInt = k.toInt - 1 := aa_sub32 (by rw [i_1]; omega) (by rw [i_1]; omega)
            rw [if_pos (c := k ≠ 1) k1, if_pos (c := (2 : Int32) ≤ k) (aa_le32.mpr (by rw [i_2]; omega)), hat2]
            have T := tn_198 (k := k - 1) W3 ht2 (by rw [e3]; exact hu2) z hs (by omega)
            rw [e3] at T
            exact (ck_85 W _ _ _ _).trans T.symm
      · rw [if_neg (c := fn_77 (G 540 22) ≠ 0) (mt ti_77n.mp z), if_neg (c := fn_193 (G 540 22) ≠ 0) (mt ti_193n.mp z)]
    · have E1 : (fn_136 g a b c m k).1 = -1 := by
        unfold fn_136
        rw [c1, c2]
        dsimp only
        by_cases z1 : fn_77 b = 0
        · rw [if_pos z1]
        · rw [if_neg z1]
          by_cases z2 : fn_66 c ≠ 0
          · rw [if_pos z2]
            by_cases z3 : fn_14 m 0 864000 = 0
            · rw [if_pos z3]
            · rw [if_neg z3]
              by_cases z4 : fn_14 k 0 3 ≠ 0
              · exact absurd ⟨ti_77n.mp z1, ti_14n.mp z2, ti_14n.mp z3, ti_14n.mp z4⟩ hG
              · rw [if_neg z4]
          · rw [if_neg z2]
      have E2 : (fn_238 g2 a b c m k).1 = -1 := by
        unfold fn_238
        simp only [gd_192z W2, k0, ti_204 W2.2.1, ne_eq, ti_77z, ti_193z, ti_14z, ti_154z, gd_66z, gd_199z, Decidable.not_not, i_0, i_1, i_2, i_3, i_11, i_12n, i_15, i_23, i_60, i_360, i_864, i_8640, i_35, eq_self, not_true_eq_false, not_false_eq_true, and_self, or_self, if_true, if_false, e0, e1, ha1, ha2, ha3]
        repeat' split
        all_goals first | (exfalso; omega) | rfl
      rw [E1, E2]
  · have E1 : (fn_136 g a b c m k).1 = -1 := by
      unfold fn_136
      rcases c1 with c1 | c1
      · rw [c1]
        cases fn_134 g a <;> rfl
      · rw [c1]
        cases fn_133 g a <;> rfl
    have k0 : fn_239 g2 a = 0 := (gd_239z W2).mpr (by rw [e0]; exact hk)
    have E2 : (fn_238 g2 a b c m k).1 = -1 := by
      unfold fn_238
      simp only [gd_192z W2, k0, ne_eq, ti_77z, ti_193z, ti_14z, ti_154z, gd_66z, gd_199z, Decidable.not_not, i_0, i_1, i_2, i_3, i_11, i_12n, i_15, i_23, i_60, i_360, i_864, i_8640, i_35, eq_self, not_true_eq_false, not_false_eq_true, and_self, or_self, if_true, if_false, e0, e1]
      repeat' split
      all_goals first | (exfalso; omega) | rfl
    rw [E1, E2]
theorem lq_136 {g : aa_G} {a0 a1 a2 a3 a4 : Int32} (hi : aa_inv g) (hφ : aa_Phi g) (hR : lr_R g) : lq_ok true 136 238 [.int a0, .int a1, .int a2, .int a3, .int a4] g :=
  lq_ask (y := fn_238 (fn_136 g a0 a1 a2 a3 a4).2 a0 a1 a2 a3 a4) hi hφ hR (ko_fw (ko_136 hi hφ) fun _ _ _ r => dn_136 r) (fun i1 p1 => ko_fw (ko_238 i1 p1) fun _ _ _ r => dn_238 r) (by decide +kernel) (by decide +kernel) (by decide +kernel) (by decide +kernel) (by decide +kernel) (by decide +kernel) fun W W2 e => ak_136 W W2 e a0 a1 a2 a3 a4
theorem ak_137 {g g2 : aa_G} (W : wd_g g) (W2 : wd_g g2) (e : g2 541 = g 541) (a b h n w : Int32) : (fn_137 g a b h n w).1 = (fn_240 g2 a b h n w).1 := by
  have e0 : g2 541 0 = g 541 0 := by rw [e]
  have e1 : g2 541 1 = g 541 1 := by rw [e]
  rcases gk_at W a with ⟨t1, t2, ⟨ht1, hat1, hu1⟩, ⟨ht2, hat2, hu2⟩, ⟨c1, c2⟩, ha1, ha2, ha3⟩ | ⟨c1, hk⟩
  · have k0 : ¬ fn_239 g2 a = 0 := fun z => (gd_239z W2).mp z (by rw [e0]; exact ⟨ha1, ha2, ha3⟩)
    unfold fn_137
    rw [c1, c2]
    dsimp only
    by_cases hw : 0 ≤ w.toInt ∧ w.toInt ≤ 2
    · rw [if_pos (c := fn_14 w 0 2 ≠ 0) (ti_14n.mpr hw)]
      have f1 := fr_90 W (a / 4) b h n
      have W3 : wd_g (fn_90 g (a / 4) b h n).2 := wd_of W (fun k j z => f1 k j (by omega))
      have e3 : (fn_90 g (a / 4) b h n).2 541 = g 541 := funext fun j => f1 541 j (by omega)
      have v1 := ck_90 W (a / 4) b h n
      unfold fn_137_47 fn_137_116
      rw [v1]
      by_cases hG : (0 ≤ b.toInt ∧ b.toInt ≤ 35999) ∧ (0 ≤ h.toInt ∧ h.toInt ≤ 1) ∧ (0 ≤ n.toInt ∧ n.toInt ≤ 12 * (g 541 1).toInt - 1)
      · have hG0 := hG
        obtain ⟨hb, hh, hn⟩ := hG0
        have n1 : (a / 4).toInt.toNat = t1 := by rw [hat1, zz_ofN (by omega)]; omega
        have p1 : sp_90 (g 541) (a / 4) b h n = sp_b (g 541 1) n (hv_t (g 541) t1 b.toInt h.toInt) := by
          unfold sp_90
          rw [if_neg (by omega), n1]
        have E2 : fn_240 g2 a b h n w = fn_240_48 (fn_205 g2 (a / 4) b h n).2 a b w (fn_205 g2 (a / 4) b h n).1 := by
          unfold fn_240
          simp only [k0, ti_204 W2.2.1, ne_eq, ti_77z, ti_193z, ti_14z, ti_154z, gd_66z, gd_199z, Decidable.not_not, i_0, i_1, i_2, i_3, i_11, i_12n, i_15, i_23, i_60, i_360, i_864, i_8640, i_35, eq_self, not_true_eq_false, not_false_eq_true, and_self, or_self, if_true, if_false, e0, e1, hb, hh, hn, hw]
        obtain ⟨q1, r1⟩ := mk_205 (b := b) (h := h) (n := n) W2 (t := t1) (by rw [e0]; exact hu1) hh (by rw [e1]; exact hn)
        have W4 : wd_g (fn_205 g2 (Int32.ofNat t1) b h n).2 := wd_of W2 (fun k j z => r1 k j (by omega))
        have e4 : (fn_205 g2 (Int32.ofNat t1) b h n).2 541 = g 541 := (funext fun j => r1 541 j (by omega)).trans e
        rw [e] at q1
        rw [E2, p1]
        unfold fn_240_48 fn_240_75
        have bd := sp_bu (b := b.toInt) (h := h.toInt) W hu1 hn
        rw [hat1] at W3 e3
        rw [hat2, hat1, q1]
        generalize sp_b (g 541 1) n (hv_t (g 541) t1 b.toInt h.toInt) = p at bd ⊢
        generalize (fn_90 g (Int32.ofNat t1) b h n).2 = X at W3 e3 ⊢
        generalize (fn_205 g2 (Int32.ofNat t1) b h n).2 = Y at W4 e4 ⊢
        by_cases z1 : p = -2
        · rw [z1, if_neg (c := (0 : Int32) ≤ -2) (by decide), if_neg (c := (-2 : Int32) ≠ -2) (fun z => z rfl)]
        · have bd := bd.resolve_left z1
          rw [if_pos (c := (0 : Int32) ≤ p) (aa_le32.mpr bd.1), if_pos (c := p ≠ -2) z1, of_94 W3 (by rw [e3]; exact hu1) (by rw [e3]; exact hu2)]
          obtain ⟨u1, u2⟩ := go_c (b := b) (c := p) W3 (t1 := t1) (t2 := t2) (by rw [e3]; exact hu1) (by rw [e3]; exact hu2) hb (by omega)
          obtain ⟨q1, q2, f⟩ := mk_208x (g := Y) (t := t1) (t2 := t2) (b := b) (c := p.toInt64) W4 (by rw [e4]; exact hu1) (by rw [e4]; exact hu2) hb (by rw [l_of]; omega)
          rw [l_of, e4] at q1 q2
          rw [e3] at u1 u2 ⊢
          generalize fn_208 Y (Int32.ofNat t1) b.toInt64 p.toInt64 (Int32.ofNat t2) = G at q1 q2 f ⊢
          have x1 := ti_eq.mpr (u1.trans q1.symm)
          have x2 := ti_eq.mpr (u2.trans q2.symm)
          rw [x1, x2]
          have W5 : wd_g G := wd_of W4 (fun k j z => f k j (by omega))
          have e5 : G 541 = g 541 := (funext fun j => f 541 j (by omega)).trans e4
          have hs : 0 ≤ (G 540 23).toInt ∧ (G 540 23).toInt ≤ 86399 := by rw [q2]; omega
          unfold fn_240_90 fn_240_106
          by_cases z : 0 ≤ (G 540 22).toInt ∧ (G 540 22).toInt ≤ 35999
          · rw [if_pos (c := fn_77 (G 540 22) ≠ 0) (ti_77n.mpr z)]
            have T : ∀ k : Int32, 0 ≤ k.toInt ∧ k.toInt ≤ 5 → (fn_85 X (Int32.ofNat t2) (G 540 22) (G 540 23) k).1 = (if (fn_200 G (Int32.ofNat t2) (G 540 22) (G 540 23)).1 = 0 then (-2, (fn_200 G (Int32.ofNat t2) (G 540 22) (G 540 23)).2) else (fn_201 (fn_200 G (Int32.ofNat t2) (G 540 22) (G 540 23)).2 k, (fn_200 G (Int32.ofNat t2) (G 540 22) (G 540 23)).2) : Int32 × aa_G).1 := by
              intro k hk
              have T := tn_198 (k := k) W5 ht2 (by rw [e5]; exact hu2) z hs hk
              unfold fn_198_35 at T
              rw [T, ck_85 W3, e3, e5]
            by_cases w2 : w = 2
            · subst w2
              rw [if_neg (c := (2 : Int32) ≠ 2) (fun h => h rfl), if_neg (c := (2 : Int32) ≠ 2) (fun h => h rfl)]
              exact T 4 (by decide)
            · rw [if_pos (c := w ≠ 2) w2, if_pos (c := w ≠ 2) w2]
              exact T w (by omega)
          · have z3 : (fn_200 G (Int32.ofNat t2) (G 540 22) (G 540 23)).1 = 0 := by
              unfold fn_200
              rw [if_pos (c := fn_193 (G 540 22) = 0) (ti_193z.mpr z)]
            rw [if_neg (c := fn_77 (G 540 22) ≠ 0) (mt ti_77n.mp z), if_pos z3]
      · have p1 : sp_90 (g 541) (a / 4) b h n = -1 := by
          unfold sp_90
          rw [if_pos (by omega)]
        have E2 : (fn_240 g2 a b h n w).1 = -1 := by
          unfold fn_240
          simp only [k0, ti_204 W2.2.1, ne_eq, ti_77z, ti_193z, ti_14z, ti_154z, gd_66z, gd_199z, Decidable.not_not, i_0, i_1, i_2, i_3, i_11, i_12n, i_15, i_23, i_60, i_360, i_864, i_8640, i_35, eq_self, not_true_eq_false, not_false_eq_true, and_self, or_self, if_true, if_false, e0, e1]
          repeat' split
          all_goals first | (exfalso; omega) | rfl
        rw [E2, p1, if_neg (c := (0 : Int32) ≤ -1) (by decide)]
    · rw [if_neg (c := fn_14 w 0 2 ≠ 0) (mt ti_14n.mp hw)]
      have E2 : (fn_240 g2 a b h n w).1 = -1 := by
        unfold fn_240
        simp only [k0, ti_204 W2.2.1, ne_eq, ti_77z, ti_193z, ti_14z, ti_154z, gd_66z, gd_199z, Decidable.not_not, i_0, i_1, i_2, i_3, i_11, i_12n, i_15, i_23, i_60, i_360, i_864, i_8640, i_35, eq_self, not_true_eq_false, not_false_eq_true, and_self, or_self, if_true, if_false, e0, e1]
        repeat' split
        all_goals first | (exfalso; omega) | rfl
      rw [E2]
  · have E1 : (fn_137 g a b h n w).1 = -1 := by
      unfold fn_137
      rcases c1 with c1 | c1
      · rw [c1]
        cases fn_134 g a <;> rfl
      · rw [c1]
        cases fn_133 g a <;> rfl
    have k0 : fn_239 g2 a = 0 := (gd_239z W2).mpr (by rw [e0]; exact hk)
    have E2 : (fn_240 g2 a b h n w).1 = -1 := by
      unfold fn_240
      rw [if_pos k0]
    rw [E1, E2]
theorem lq_137 {g : aa_G} {a0 a1 a2 a3 a4 : Int32} (hi : aa_inv g) (hφ : aa_Phi g) (hR : lr_R g) : lq_ok true 137 240 [.int a0, .int a1, .int a2, .int a3, .int a4] g :=
  lq_ask (y := fn_240 (fn_137 g a0 a1 a2 a3 a4).2 a0 a1 a2 a3 a4) hi hφ hR (ko_fw (ko_137 hi hφ) fun _ _ _ r => dn_137 r) (fun i1 p1 => ko_fw (ko_240 i1 p1) fun _ _ _ r => dn_240 r) (by decide +kernel) (by decide +kernel) (by decide +kernel) (by decide +kernel) (by decide +kernel) (by decide +kernel) fun W W2 e => ak_137 W W2 e a0 a1 a2 a3 a4
