/-! TOWN: both sides read the same -/
theorem ak_75 {g : aa_G} {T p i o c : Nat} (ho : o < 4) (hi : i < 2147483648) (hc : c ≤ 12) (h1 : g T 1 = Int32.ofNat c) (h : i < c → ∀ o, 1 ≤ o → o ≤ 4 → g (T + o) i = g 541 (p + 4 * i + o)) : fn_75 g T (Int32.ofNat i) (Int32.ofNat o) = if i < c then g 541 (p + 4 * i + (o + 1)) else -1000000 := by
  have e1 : (g T 1 - 1).toInt = (c : Int) - 1 := by
    rw [h1, aa_sub32 (by rw [zz_ofN (by omega), show (1 : Int32).toInt = 1 from rfl]; omega) (by rw [zz_ofN (by omega), show (1 : Int32).toInt = 1 from rfl]; omega), zz_ofN (by omega)]
    rfl
  have e2 : fn_14 (Int32.ofNat i) 0 (g T 1 - 1) ≠ 0 ↔ i < c := by
    rw [ti_14n, zz_ofN hi, e1, show (0 : Int32).toInt = 0 from rfl]
    omega
  unfold fn_75
  by_cases z : i < c
  · rw [if_pos (e2.mpr z), if_pos z, zz_toN hi, zz_ofN (by omega), ← h z (o + 1) (by omega) (by omega)]
    have ho : o = 0 ∨ o = 1 ∨ o = 2 ∨ o = 3 := by omega
    rcases ho with rfl | rfl | rfl | rfl
    · rw [if_pos (by decide)]
    · rw [if_neg (by decide), if_pos (by decide)]
    · rw [if_neg (by decide), if_neg (by decide), if_pos (by decide)]
    · rw [if_neg (by decide), if_neg (by decide), if_neg (by decide)]
  · rw [if_neg (mt e2.mp z), if_neg z]
theorem ak_74 {g : aa_G} (hi : aa_inv g) (W : wd_g g) (q : q1_s g g 2 0) (a b : Int32) : fn_74 g a b = fn_253 g a b := by
  rcases ct_at W a with ⟨t, ht, rfl, ht2, e1, e2⟩ | ⟨-, e1, e2⟩
  · obtain ⟨q1, q2, q3, -⟩ := q.2.2.2 t ht2
    obtain ⟨c, hc, hc1⟩ := tq_count hi ht
    have E1 : 5 * t + (2 + 12) = 5 * t + 14 := by omega
    have E2 : 399 * 0 + 50 * t + 3 = 50 * t + 3 := by omega
    rw [E1, E2] at q1 q2 q3
    have hc2 : g (5 * t + 14) 1 = Int32.ofNat c := q2.trans hc1
    have hc3 : (g 541 (50 * t + 3 + 1)).toInt = c := by
      show (g 541 (50 * t + 4)).toInt = c
      rw [hc1, i_12 hc]
    have x1 : ((Int32.ofNat (50 * t + 3)) + 1).toNatClampNeg = 50 * t + 4 := by rw [mb_add _ 1 (v := 1) rfl, zz_toN (by omega)]
    have x4 : (9 + 4 * Int32.ofNat c : Int32).toInt = 9 + 4 * (c : Int) := by
      have y : (4 * Int32.ofNat c : Int32).toInt = 4 * (c : Int) := by
        rw [ti_mul (by rw [zz_ofN (by omega), show (4 : Int32).toInt = 4 from rfl]; omega) (by rw [zz_ofN (by omega), show (4 : Int32).toInt = 4 from rfl]; omega), zz_ofN (by omega)]
        rfl
      rw [aa_add32 (by rw [y, show (9 : Int32).toInt = 9 from rfl]; omega) (by rw [y, show (9 : Int32).toInt = 9 from rfl]; omega), y]
      rfl
    unfold fn_74 fn_253
    rw [e1, e2, ml_ta t, x1, hc1]
    dsimp only
    rw [if_pos (c := (1 : Int32) ≠ 0) (by decide)]
    by_cases b0 : b = 0
    · subst b0
      rw [if_neg (c := ((0 : Int32) ≠ 0)) (by decide), if_neg (c := fn_154 0 0 1 = 0) (by decide), mb_add _ 0 (v := 0) rfl, zz_toN (by omega)]
      exact q1
    · rw [if_pos (c := b ≠ 0) b0]
      by_cases b1 : b = 1
      · subst b1
        rw [if_neg (c := ((1 : Int32) ≠ 1)) (by decide), if_neg (c := fn_154 1 0 1 = 0) (by decide), x1]
        exact q2
      · rw [if_pos (c := b ≠ 1) b1]
        have n0 := ti_ne.mp b0
        have n1 := ti_ne.mp b1
        have n0 : b.toInt ≠ 0 := n0
        have n1 : b.toInt ≠ 1 := n1
        have y1 : fn_154 b 0 1 = 0 := ti_154z.mpr (by rw [show (0 : Int32).toInt = 0 from rfl, show (1 : Int32).toInt = 1 from rfl]; omega)
        rw [if_pos (c := fn_154 b 0 1 = 0) y1]
        by_cases hb : 10 ≤ b
        · rw [if_pos (c := 10 ≤ b) hb]
          have hb := aa_le32.mp hb
          have hb : (10 : Int) ≤ b.toInt := hb
          obtain ⟨n, hn, rfl, hn2⟩ := ti_nat (a := b) (by omega)
          have hn10 : 10 ≤ n := by omega
          have s1 : (Int32.ofNat n - 10 : Int32).toInt = (n : Int) - 10 := by
            rw [aa_sub32 (by rw [zz_ofN (by omega), show (10 : Int32).toInt = 10 from rfl]; omega) (by rw [zz_ofN (by omega), show (10 : Int32).toInt = 10 from rfl]; omega), zz_ofN (by omega)]
            rfl
          have s2 : (Int32.ofNat n - 10 : Int32) / 4 = Int32.ofNat ((n - 10) / 4) := aa_eqN (by
            rw [ti_div (by rw [s1]; omega) (by decide), s1, show (4 : Int32).toInt = 4 from rfl]; omega) (by omega)
          have s3 : (Int32.ofNat n - 10 : Int32) - (Int32.ofNat n - 10) / 4 * 4 = Int32.ofNat ((n - 10) % 4) := aa_eqN (by
            rw [ti_rem (by rw [s1]; omega) (by decide), s1, show (4 : Int32).toInt = 4 from rfl]; omega) (by omega)
          rw [s3, s2, ak_75 (p := 50 * t + 4) (by omega) (by omega) hc hc2 (fun z o o1 o2 => q3 _ (by rw [hc3]; omega) o o1 o2)]
          by_cases z : n ≤ 9 + 4 * c
          · have y2 : ¬ fn_154 (Int32.ofNat n) 10 (9 + 4 * Int32.ofNat c) = 0 := fun e => ti_154z.mp e (by rw [x4, zz_ofN (by omega), show (10 : Int32).toInt = 10 from rfl]; omega)
            rw [if_neg y2, if_pos (by omega), mb_add _ 2 (v := 2) rfl, mb_add _ n rfl]
            have s4 : (Int32.ofNat (50 * t + 3 + 2 + n) - 10 : Int32) = Int32.ofNat (50 * t + n - 5) := aa_eqN (by
              rw [aa_sub32 (by rw [zz_ofN (by omega), show (10 : Int32).toInt = 10 from rfl]; omega) (by rw [zz_ofN (by omega), show (10 : Int32).toInt = 10 from rfl]; omega), zz_ofN (by omega), show (10 : Int32).toInt = 10 from rfl]; omega) (by omega)
            rw [s4, zz_toN (by omega)]
            congr 1
            omega
          · have y2 : fn_154 (Int32.ofNat n) 10 (9 + 4 * Int32.ofNat c) = 0 := ti_154z.mpr (by rw [x4, zz_ofN (by omega), show (10 : Int32).toInt = 10 from rfl]; omega)
            rw [if_pos y2, if_neg (by omega)]
        · rw [if_neg (c := 10 ≤ b) hb]
          have hb := mt aa_le32.mpr hb
          have hb : ¬ (10 : Int) ≤ b.toInt := hb
          rw [if_pos (c := fn_154 b 10 (9 + 4 * Int32.ofNat c) = 0) (ti_154z.mpr (by rw [show (10 : Int32).toInt = 10 from rfl]; omega))]
  · unfold fn_74 fn_253
    rw [e1, e2]
    rw [if_neg (c := (0 : Int32) ≠ 0) (by decide)]
theorem lr_wd {g : aa_G} (hi : aa_inv g) (hφ : aa_Phi g) (hR : lr_R g) : wd_g g ∧ q1_s g g 2 0 := ⟨wd_mk hi hφ hR.1.1.1 hR.1.2.2.2.2.2.2.2.1, hR.1.1.1⟩
theorem lq_74 {g : aa_G} {a0 a1 : Int32} (hi : aa_inv g) (hφ : aa_Phi g) (hR : lr_R g) : lq_ok true 74 253 [.int a0, .int a1] g :=
  lq_as hi hφ hR (ko_fi (ko_74 hi hφ) fun _ _ _ r => dn_74 r) (ko_fi (ko_253 hi hφ) fun _ _ _ r => dn_253 r) (ak_74 hi (lr_wd hi hφ hR).1 (lr_wd hi hφ hR).2 a0 a1)
