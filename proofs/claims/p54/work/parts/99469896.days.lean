/-! RINGS of many DAYS: total, busiest: both sides say the same -/
/-- behind the last DAY the model gathers nothing -/
theorem mz_7 {g : aa_G} {t M : Nat} {d : Int32} (W : wd_g g) (ht : (t : Int) < (g 541 0).toInt) (hM : M ≤ 8) (hb : g 541 2 = Int32.ofNat M) (hh : ∀ k, k < M → g 541 (203 + 7 * k) = 0 ∨ g 541 (203 + 7 * k) = 1) (hd : 36000 ≤ d.toInt ∧ d.toInt ≤ 100000) : ∀ (n k : Nat) (Y : aa_G), k + n = M → wd_g Y → Y 541 = g 541 → wd_g (fn_212_7 Y (Int32.ofNat t) d (Int32.ofNat k)) ∧ (fn_212_7 Y (Int32.ofNat t) d (Int32.ofNat k)) 541 = g 541 ∧ ∀ a j, ¬ (a = 540 ∧ 13 ≤ j ∧ j ≤ 18) → fn_212_7 Y (Int32.ofNat t) d (Int32.ofNat k) a j = Y a j := by
  have no1 : ∀ h : Int, hv_t (g 541) t d.toInt h = none := fun h => by
    unfold hv_t tw_H
    rw [if_pos (by omega)]
  have ed : (d - 1).toInt = d.toInt - 1 := aa_sub32 (by rw [i_1]; omega) (by rw [i_1]; omega)
  have no2 : hv_t (g 541) t (d - 1).toInt 1 = none := by
    unfold hv_t tw_H
    by_cases z : ¬ (0 ≤ (d - 1).toInt ∧ (d - 1).toInt ≤ 35999)
    · rw [if_pos z]
    · rw [if_neg z, if_pos ⟨rfl, by omega⟩]
  intro n
  induction n with
  | zero =>
    intro k Y e w1 w2
    obtain rfl : k = M := by omega
    have y2 : Y 541 2 = Int32.ofNat k := by rw [w2]; exact hb
    have E : fn_212_7 Y (Int32.ofNat t) d (Int32.ofNat k) = Y := by
      unfold fn_212_7
      refine lp_r ?_
      dsimp only
      unfold fn_212_7b
      rw [show (2 : Int32).toNatClampNeg = 2 from rfl, y2, if_pos (aa_le32.mpr (Int.le_refl _))]
    rw [E]
    exact ⟨w1, w2, fun _ _ _ => rfl⟩
  | succ n ih =>
    intro k Y e w1 w2
    have y2 : Y 541 2 = Int32.ofNat M := by rw [w2]; exact hb
    have hk : k < M := by omega
    have e203 : (203 : Int32) + 7 * Int32.ofNat k = Int32.ofNat (203 + 7 * k) := by rw [mb_7 (by omega), show (203 : Int32) + Int32.ofNat (7 * k) = Int32.ofNat (203 + 7 * k) from i_add 203 (7 * k)]
    have k1 : ¬ Int32.ofNat M ≤ Int32.ofNat k := fun z => by have := aa_le32.mp z; rw [zz_ofN (by omega), zz_ofN (by omega)] at this; omega
    have last : ∀ (Z : aa_G) (h : Int32), (h = 0 ∨ h = 1) → wd_g Z → Z 541 = g 541 → ∃ Z2, fn_212_82 Z (Int32.ofNat t) d (Int32.ofNat k) h = .inl (Z2, Int32.ofNat k + 1) ∧ wd_g Z2 ∧ Z2 541 = g 541 ∧ ∀ a j, ¬ (a = 540 ∧ 13 ≤ j ∧ j ≤ 18) → Z2 a j = Z a j := by
      intro Z h hh z1 z2
      obtain ⟨q1, q2, q3, v⟩ := lv_half d h z1 (t := t) (by rw [z2]; exact ht) hh
      rw [z2, no1] at v
      refine ⟨(fn_194 Z (Int32.ofNat t) d h).2, ?_, q1, q2.trans z2, fun a j z => q3 a j (by omega)⟩
      unfold fn_212_82 fn_212_90
      rw [lv_m0 v, if_pos (c := (0 : Int32) = 0) rfl]
      unfold fn_212_104 fn_212_125
      rw [if_pos neg_1]
    have step : ∃ Z2, fn_212_7b Y (Int32.ofNat t) d (Int32.ofNat k) = .inl (Z2, Int32.ofNat (k + 1)) ∧ wd_g Z2 ∧ Z2 541 = g 541 ∧ ∀ a j, ¬ (a = 540 ∧ 13 ≤ j ∧ j ≤ 18) → Z2 a j = Y a j := by
      unfold fn_212_7b
      rw [show (2 : Int32).toNatClampNeg = 2 from rfl, y2, if_neg k1, e203, zz_toN (by omega), w2]
      rcases hh k hk with h0 | h1
      · rw [h0, if_pos (c := (0 : Int32) ≠ 1) (by decide)]
        unfold fn_212_62 fn_212_63
        rw [if_pos (c := (-1 : Int32) < 86400) (by decide)]
        obtain ⟨Z2, z1, z2, z3, z4⟩ := last Y 0 (.inl rfl) w1 w2
        exact ⟨Z2, by rw [z1, aa_succ], z2, z3, z4⟩
      · rw [h1, if_neg (c := (1 : Int32) ≠ 1) (fun z => z rfl)]
        obtain ⟨q1, q2, q3, v⟩ := lv_half (d - 1) 1 w1 (t := t) (by rw [w2]; exact ht) (.inr rfl)
        rw [w2, i_1, no2] at v
        unfold fn_212_47
        rw [lv_m0 v, if_pos (c := (0 : Int32) = 0) rfl]
        unfold fn_212_62 fn_212_63
        rw [if_pos (c := (-1 : Int32) < 86400) (by decide)]
        obtain ⟨Z2, z1, z2, z3, z4⟩ := last _ 1 (.inr rfl) q1 (q2.trans w2)
        exact ⟨Z2, by rw [z1, aa_succ], z2, z3, fun a j z => (z4 a j z).trans (q3 a j (by omega))⟩
    obtain ⟨Z2, z1, z2, z3, z4⟩ := step
    have E : fn_212_7 Y (Int32.ofNat t) d (Int32.ofNat k) = fn_212_7 Z2 (Int32.ofNat t) d (Int32.ofNat (k + 1)) := by
      unfold fn_212_7
      exact lp_l z1
    rw [E]
    obtain ⟨i1, i2, i3⟩ := ih (k + 1) Z2 (by omega) z2 z3
    exact ⟨i1, i2, fun a j z => (i3 a j z).trans (z4 a j z)⟩
theorem mz_212 {g g2 : aa_G} {t : Nat} {d : Int32} (W : wd_g g) (W2 : wd_g g2) (e : g2 541 = g 541) (B : br_B g g 2 0) (hb : g 4 0 = g 541 2) (ht : (t : Int) < (g 541 0).toInt) (hd : 36000 ≤ d.toInt ∧ d.toInt ≤ 100000) : wd_g (fn_212 g2 (Int32.ofNat t) d) ∧ (fn_212 g2 (Int32.ofNat t) d) 541 = g 541 ∧ (fn_212 g2 (Int32.ofNat t) d) 540 26 = 0 ∧ ∀ a j, ¬ (a = 540 ∧ 13 ≤ j ∧ j ≤ 26) → fn_212 g2 (Int32.ofNat t) d a j = g2 a j := by
  obtain ⟨M, hM, h0, hB⟩ := B
  have h0 : g 4 0 = Int32.ofNat M := h0
  unfold fn_212
  generalize hY : zz_w g2 540 26 0 = Y
  have fY : ∀ a j, ¬ (a = 540 ∧ j = 26) → Y a j = g2 a j := fun a j z => by rw [← hY, aa_w_ne _ _ z]
  obtain ⟨q1, q2, q3⟩ := mz_7 W ht hM (hb.symm.trans h0) (fun k hk => by
    obtain ⟨F, T0, ts, c0, cs, b1, b2, b3, b4⟩ := hB k hk
    have e : g 541 (203 + 7 * k) = F.1 := by
      have := b2.1.1
      dsimp only at this
      rwa [show 399 * 0 + (203 + 7 * k) = 203 + 7 * k by omega] at this
    rw [e]
    exact b4.1) hd M 0 Y (by omega) (wd_of W2 (fun k j z => fY k j (by omega))) ((funext fun j => fY 541 j (by omega)).trans e)
  refine ⟨q1, q2, (q3 540 26 (by omega)).trans (by rw [← hY, aa_w_at]), fun a j z => (q3 a j (by omega)).trans (fY a j (by omega))⟩
theorem ak_114 {g g2 : aa_G} (W : wd_g g) (W2 : wd_g g2) (e : g2 541 = g 541) (B : br_B g g 2 0) (hb : g 4 0 = g 541 2) (a b m : Int32) : (fn_114 g a b m).1 = (fn_246 g2 a b m).1 := by
  have e0 : g2 541 0 = g 541 0 := by rw [e]
  have e1 : g2 541 1 = g 541 1 := by rw [e]
  by_cases ha : 0 ≤ a.toInt ∧ a.toInt < (g 541 0).toInt
  · obtain ⟨t, ht, hat, ht2, c1, -⟩ := gt_s W ha
    by_cases hG : (0 ≤ b.toInt ∧ b.toInt ≤ 35999) ∧ (1 ≤ m.toInt ∧ m.toInt ≤ 60)
    · have hG0 := hG
      obtain ⟨hb', hm⟩ := hG0
      have E1 : fn_114 g a b m = fn_114_36 g a b m 0 b := by
        unfold fn_114
        rw [c1]
        dsimp only
        simp only [gd_91z W, ne_eq, ti_77z, ti_193z, ti_14z, ti_154z, gd_66z, gd_199z, Decidable.not_not, i_0, i_1, i_2, i_3, i_11, i_12n, i_15, i_23, i_60, i_360, i_864, i_8640, i_35, eq_self, not_true_eq_false, not_false_eq_true, and_self, or_self, if_true, if_false, hb', hm]
      have E2 : fn_246 g2 a b m = fn_246_33 g2 a b m 0 b := by
        unfold fn_246
        simp only [gd_191z W2, gd_192z W2, ti_204 W2.2.1, ne_eq, ti_77z, ti_193z, ti_14z, ti_154z, gd_66z, gd_199z, Decidable.not_not, i_0, i_1, i_2, i_3, i_11, i_12n, i_15, i_23, i_60, i_360, i_864, i_8640, i_35, eq_self, not_true_eq_false, not_false_eq_true, and_self, or_self, if_true, if_false, e0, e1, ha, hb', hm]
      rw [E1, E2]
      rw [hat]
      unfold fn_114_36 fn_246_33
      have eb : (b + m).toInt = b.toInt + m.toInt := aa_add32 (by omega) (by omega)
      refine lp_two1 (fun (n' : Nat) (s t' : aa_G × Int32 × Int32) => t'.2.2.toInt + n' = b.toInt + m.toInt ∧ (b.toInt ≤ s.2.2.toInt ∧ s.2.2.toInt ≤ 36000) ∧ s.2.1 = t'.2.1 ∧ (s.2.2.toInt = t'.2.2.toInt ∨ (36000 ≤ s.2.2.toInt ∧ s.2.2.toInt ≤ t'.2.2.toInt)) ∧ (wd_g s.1 ∧ s.1 541 = g 541 ∧ br_B s.1 s.1 2 0 ∧ s.1 4 0 = s.1 541 2) ∧ (wd_g t'.1 ∧ t'.1 541 = g 541)) ?_ ?_ m.toInt.toNat _ _ ⟨by first | omega | (dsimp only; omega), by first | omega | (dsimp only; omega), rfl, .inl rfl, ⟨W, rfl, B, hb⟩, ⟨W2, e⟩⟩
      · rintro n' ⟨X, s, i⟩ ⟨Y, s', j⟩ ⟨r1, r2, r3, r5, ⟨w1, w2, wB, wb⟩, w3, w4⟩
        dsimp only at r1 r2 r3 r5 w1 w2 wB wb w3 w4 ⊢
        subst r3
        have n3 : ¬ b + m ≤ j := fun z => by have := aa_le32.mp z; omega
        have es : (j + 1).toInt = j.toInt + 1 := i_suc (by omega) (by omega)
        unfold fn_246_33b
        rw [if_neg n3]
        by_cases hi : i.toInt < 36000
        · have r5 : i = j := ti_eq.mpr (by omega)
          subst r5
          have n1 : ¬ (36000 : Int32) ≤ i := fun z => by have := aa_le32.mp z; rw [i_36] at this; omega
          obtain ⟨N, M, R, -, -⟩ := rp_of (Q := 463) (t := t) (d := i) (.inl rfl) w1 w3 (w4.trans w2.symm) wB wb (by rw [w2]; exact ht2) (by omega)
          unfold fn_114_36b
          rw [if_neg n3, if_neg n1]
          generalize fn_103 X 463 (Int32.ofNat t) i = X' at R ⊢
          generalize fn_212 Y (Int32.ofNat t) i = Y' at R ⊢
          have q1 := R.2.2.2.1
          have q2 := R.2.2.2.2.1
          have q3 := R.2.2.2.2.2.2.2
          unfold fn_114_66 fn_113 fn_246_48
          rw [show fn_113_4 X' 463 0 0 = su (st_f (X 541) Y') 0 N 0 from st_113 R N 0 0 (by omega), show fn_246_51 Y' (Int32.ofNat t) b m s i 0 = .inl (Y', su (st_f (X 541) Y') 0 N s, i + 1) from st_246 R N 0 s (by omega), su_0 (st_f (X 541) Y') N 0 s]
          exact .inl ⟨_, _, rfl, rfl, by first | omega | (dsimp only; omega), by first | omega | (dsimp only; omega), rfl, .inl rfl, ⟨q1.1, q1.2.trans w2, q3.1, q3.2⟩, q2.1, q2.2.trans w2⟩
        · obtain ⟨q1, q2, q3, -⟩ := mz_212 (t := t) (d := j) w1 w3 (w4.trans w2.symm) wB wb (by rw [w2]; exact ht2) (by omega)
          generalize fn_212 Y (Int32.ofNat t) j = Y' at q1 q2 q3 ⊢
          unfold fn_246_48
          have k : fn_246_51 Y' (Int32.ofNat t) b m s j 0 = .inl (Y', s, j + 1) := by
            unfold fn_246_51
            refine lp_r ?_
            dsimp only
            unfold fn_246_51b
            rw [q3, if_pos (by decide)]
          rw [k]
          exact .inr (.inl ⟨_, rfl, by first | omega | (dsimp only; omega), by first | omega | (dsimp only; omega), rfl, .inr (by first | omega | (dsimp only; omega)), ⟨w1, w2, wB, wb⟩, q1, q2.trans w2⟩)
      · rintro ⟨X, s, i⟩ ⟨Y, s', j⟩ ⟨r1, r2, r3, r5, -⟩
        dsimp only at r1 r2 r3 r5 ⊢
        subst r3
        unfold fn_114_36b fn_246_33b
        rw [if_pos (c := b + m ≤ j) (aa_le32.mpr (by omega))]
        by_cases n1 : b + m ≤ i
        · rw [if_pos n1]
          exact ⟨_, _, rfl, rfl, rfl⟩
        · rw [if_neg n1, if_pos (c := (36000 : Int32) ≤ i) (aa_le32.mpr (by rw [i_36]; have := mt aa_le32.mpr n1; omega))]
          exact ⟨_, _, rfl, rfl, rfl⟩
    · have E1 : (fn_114 g a b m).1 = -1 := by
        unfold fn_114
        rw [c1]
        dsimp only
        simp only [gd_91z W, ne_eq, ti_77z, ti_193z, ti_14z, ti_154z, gd_66z, gd_199z, Decidable.not_not, i_0, i_1, i_2, i_3, i_11, i_12n, i_15, i_23, i_60, i_360, i_864, i_8640, i_35, eq_self, not_true_eq_false, not_false_eq_true, and_self, or_self, if_true, if_false]
        repeat' split
        all_goals first | rfl | (exfalso; omega)
      have E2 : (fn_246 g2 a b m).1 = -1 := by
        unfold fn_246
        simp only [gd_191z W2, gd_192z W2, ti_204 W2.2.1, ne_eq, ti_77z, ti_193z, ti_14z, ti_154z, gd_66z, gd_199z, Decidable.not_not, i_0, i_1, i_2, i_3, i_11, i_12n, i_15, i_23, i_60, i_360, i_864, i_8640, i_35, eq_self, not_true_eq_false, not_false_eq_true, and_self, or_self, if_true, if_false, e0, e1, ha]
        repeat' split
        all_goals first | rfl | (exfalso; omega)
      rw [E1, E2]
  · have E1 : (fn_114 g a b m).1 = -1 := by
      unfold fn_114
      simp only [gt_n W ha]
    have E2 : (fn_246 g2 a b m).1 = -1 := by
      unfold fn_246
      simp only [gd_191z W2, gd_192z W2, ti_204 W2.2.1, ne_eq, ti_77z, ti_193z, ti_14z, ti_154z, gd_66z, gd_199z, Decidable.not_not, i_0, i_1, i_2, i_3, i_11, i_12n, i_15, i_23, i_60, i_360, i_864, i_8640, i_35, eq_self, not_true_eq_false, not_false_eq_true, and_self, or_self, if_true, if_false, e0, e1]
      repeat' split
      all_goals first | rfl | (exfalso; omega)
    rw [E1, E2]
/-! the busiest BELL -/
def tl_r (X Y : aa_G) (D : Int) : Prop := ∀ k, k < 8 → X 475 k = Y 550 k ∧ 0 ≤ (Y 550 k).toInt ∧ (Y 550 k).toInt ≤ D
theorem tl_118 {g X Y : aa_G} {N M : Nat} {b1 b2 b3 b4 b5 : Int32} {D : Int} (h : rp g X Y 463 N M) (hD : 0 ≤ D ∧ D ≤ 1000000) (ht : tl_r X Y D) : ∃ X2 Y2, fn_118 X 463 = X2 ∧ fn_236_82 Y b1 b2 b3 b4 b5 0 = .inl (Y2, b5 + 1) ∧ tl_r X2 Y2 (D + N) ∧ (∀ a j, a ≠ 475 → X2 a j = X a j) ∧ ∀ a j, a ≠ 550 → Y2 a j = Y a j := by
  obtain ⟨hN, hM, ⟨h0, h1, hv⟩, -⟩ := h
  have key : (fun (x : aa_G) (y : (aa_G × Int32) ⊕ (Int32 × aa_G)) => ∃ Y2, y = .inl (Y2, b5 + 1) ∧ tl_r x Y2 (D + N) ∧ (∀ a j, a ≠ 475 → x a j = X a j) ∧ ∀ a j, a ≠ 550 → Y2 a j = Y a j) (fn_118 X 463) (fn_236_82 Y b1 b2 b3 b4 b5 0) := by
    unfold fn_118 fn_118_2 fn_236_82
    refine lp_two (Q := fun (x : aa_G) (y : (aa_G × Int32) ⊕ (Int32 × aa_G)) => ∃ Y2, y = .inl (Y2, b5 + 1) ∧ tl_r x Y2 (D + N) ∧ (∀ a j, a ≠ 475 → x a j = X a j) ∧ ∀ a j, a ≠ 550 → Y2 a j = Y a j) (fun (n : Nat) (p q : aa_G × Int32) => ∃ i : Nat, i + n = N ∧ p.2 = Int32.ofNat i ∧ q.2 = Int32.ofNat i ∧ tl_r p.1 q.1 (D + i) ∧ (∀ a j, a ≠ 475 → p.1 a j = X a j) ∧ ∀ a j, a ≠ 550 → q.1 a j = Y a j) ?_ ?_ N _ _ ⟨0, by omega, rfl, rfl, fun k hk => ⟨(ht k hk).1, (ht k hk).2.1, by have := (ht k hk).2.2; dsimp only; omega⟩, fun _ _ _ => rfl, fun _ _ _ => rfl⟩
    · rintro n ⟨A, i'⟩ ⟨B, j'⟩ ⟨i, r1, r2, r3, r4, r5, r6⟩
      dsimp only at r2 r3 r4 r5 r6 ⊢
      subst r2 r3
      obtain ⟨-, v2, -, k, hk, v4⟩ := hv i (by omega)
      have k1 : ¬ Int32.ofNat N ≤ Int32.ofNat i := fun z => by have := aa_le32.mp z; rw [zz_ofN (by omega), zz_ofN (by omega)] at this; omega
      have a0 : A 463 0 = Int32.ofNat N := (r5 463 0 (by omega)).trans h0
      have a2 : A (463 + 2) i = Int32.ofNat k := (r5 _ i (by omega)).trans (v2.trans v4)
      have b0 : B 540 26 = Int32.ofNat N := (r6 540 26 (by omega)).trans h1
      have b2' : B 547 i = Int32.ofNat k := (r6 547 i (by omega)).trans v4
      obtain ⟨c1, c2, c3⟩ := r4 k (by omega)
      unfold fn_118_2b fn_118_39 fn_236_82b
      rw [a0, if_neg k1, b0, if_neg k1, zz_toN (by omega), a2, b2', zz_toN (by omega), if_neg (c := fn_14 (Int32.ofNat k) 0 (8 - 1) = 0) (fun z => ti_14z.mp z (by rw [zz_ofN (by omega), i_0, show (8 - 1 : Int32).toInt = 7 from by decide]; omega)), c1, aa_succ]
      have ec : (B 550 k + 1).toInt = (B 550 k).toInt + 1 := i_suc (by omega) (by omega)
      refine .inl ⟨_, _, rfl, rfl, i + 1, by omega, rfl, rfl, fun q hq => ?_, fun a j z => ?_, fun a j z => ?_⟩
      · dsimp only
        by_cases e : q = k
        · subst e
          rw [aa_w_at, aa_w_at, ec]
          exact ⟨rfl, by omega, by omega⟩
        · obtain ⟨d1, d2, d3⟩ := r4 q hq
          rw [aa_w_ne _ _ (by omega), aa_w_ne _ _ (by omega)]
          exact ⟨d1, d2, by omega⟩
      · dsimp only
        rw [aa_w_ne _ _ (by omega)]
        exact r5 a j z
      · dsimp only
        rw [aa_w_ne _ _ (by omega)]
        exact r6 a j z
    · rintro ⟨A, i'⟩ ⟨B, j'⟩ ⟨i, r1, r2, r3, r4, r5, r6⟩
      dsimp only at r2 r3 r4 r5 r6 ⊢
      subst r2 r3
      have k1 : Int32.ofNat N ≤ Int32.ofNat i := aa_le32.mpr (by rw [zz_ofN (by omega), zz_ofN (by omega)]; omega)
      have a0 : A 463 0 = Int32.ofNat N := (r5 463 0 (by omega)).trans h0
      have b0 : B 540 26 = Int32.ofNat N := (r6 540 26 (by omega)).trans h1
      unfold fn_118_2b fn_236_82b
      rw [a0, if_pos k1, b0, if_pos k1]
      obtain rfl : i = N := by omega
      exact ⟨_, _, rfl, rfl, B, rfl, r4, r5, r6⟩
  obtain ⟨Y2, k1, k2, k3, k4⟩ := key
  exact ⟨_, Y2, rfl, k1, k2, k3, k4⟩
/-- which is the busiest -/
theorem tl_max {X Y : aa_G} {D : Int} {w : Int32} (hD : D ≤ 2000000) (h : tl_r X Y D) (hw : 0 ≤ w.toInt ∧ w.toInt ≤ 1) : (fn_117_117 X w).1 = (fn_236_125 Y w 0 1).1 := by
  have z8 : (8 : Int32).toInt = 8 := rfl
  unfold fn_117_117 fn_117_126 fn_236_125
  refine lp_two1 (fun (n' : Nat) (s : Int32 × Int32 × Int32) (t' : Int32 × Int32) => ∃ i k : Nat, k < 8 ∧ i ≤ 8 ∧ t'.1 = Int32.ofNat k ∧ s.2.2 = Int32.ofNat i ∧ ((i = 0 ∧ k = 0 ∧ n' = 8 ∧ t'.2 = Int32.ofNat 1 ∧ s.1 = -1 ∧ s.2.1 = 0) ∨ (i + n' = 8 ∧ 1 ≤ i ∧ t'.2 = Int32.ofNat i ∧ ((Y 550 k = 0 ∧ s.1 = -1 ∧ s.2.1 = 0) ∨ (Y 550 k ≠ 0 ∧ s.1 = Int32.ofNat k ∧ s.2.1 = Y 550 k))))) ?_ ?_ 8 _ _ ⟨0, 0, by omega, by omega, rfl, rfl, .inl ⟨rfl, rfl, rfl, rfl, rfl, rfl⟩⟩
  · rintro n' ⟨p, q, i'⟩ ⟨k', j'⟩ ⟨i, k, hk, hi8, e1, e2, e3⟩
    dsimp only at e1 e2 e3 ⊢
    subst e1 e2
    rcases e3 with ⟨rfl, rfl, e4, rfl, rfl, rfl⟩ | ⟨e4, e5, rfl, e6⟩
    · -- the first BELL, the class alone
      obtain ⟨c1, c2, c3⟩ := h 0 (by omega)
      refine .inr (.inr (.inl ?_))
      unfold fn_117_126b fn_117_161
      rw [if_neg (c := (8 : Int32) ≤ Int32.ofNat 0) (by decide), zz_toN (by omega), c1, aa_succ]
      by_cases z : Y 550 0 ≤ 0
      · have z' := aa_le32.mp z
        rw [i_0] at z'
        rw [if_pos z]
        exact ⟨_, rfl, 1, 0, by omega, by omega, rfl, rfl, .inr ⟨by omega, by omega, rfl, .inl ⟨ti_eq.mpr (by rw [i_0]; omega), rfl, rfl⟩⟩⟩
      · have z' := mt aa_le32.mpr z
        rw [i_0] at z'
        rw [if_neg z]
        exact ⟨_, rfl, 1, 0, by omega, by omega, rfl, rfl, .inr ⟨by omega, by omega, rfl, .inr ⟨fun e => by have := congrArg Int32.toInt e; rw [i_0] at this; omega, rfl, rfl⟩⟩⟩
    · have hi : i < 8 := by omega
      obtain ⟨c1, c2, c3⟩ := h i hi
      obtain ⟨d1, d2, d3⟩ := h k hk
      have k1 : ¬ (8 : Int32) ≤ Int32.ofNat i := fun z => by have := aa_le32.mp z; rw [zz_ofN (by omega), z8] at this; omega
      unfold fn_117_126b fn_117_161 fn_236_125b fn_236_156
      rw [if_neg k1, if_neg k1, zz_toN (by omega), zz_toN (by omega), c1, aa_succ]
      have same : q = Y 550 k := by
        rcases e6 with ⟨f1, f2, f3⟩ | ⟨f1, f2, f3⟩
        · rw [f3, f1]
        · exact f3
      rw [same]
      by_cases z : Y 550 i ≤ Y 550 k
      · rw [if_pos z, if_pos z]
        refine .inl ⟨_, _, rfl, rfl, i + 1, k, hk, by omega, rfl, rfl, .inr ⟨by omega, by omega, rfl, ?_⟩⟩
        rcases e6 with ⟨f1, f2, f3⟩ | ⟨f1, f2, f3⟩
        · exact .inl ⟨f1, f2, f1⟩
        · exact .inr ⟨f1, f2, rfl⟩
      · have z' := mt aa_le32.mpr z
        rw [if_neg z, if_neg z]
        exact .inl ⟨_, _, rfl, rfl, i + 1, i, hi, by omega, rfl, rfl, .inr ⟨by omega, by omega, rfl, .inr ⟨fun e => by have := congrArg Int32.toInt e; rw [i_0] at this; omega, rfl, rfl⟩⟩⟩
  · rintro ⟨p, q, i'⟩ ⟨k', j'⟩ ⟨i, k, hk, hi8, e1, e2, e3⟩
    dsimp only at e1 e2 e3 ⊢
    subst e1 e2
    rcases e3 with ⟨-, -, e4, -⟩ | ⟨e4, e5, rfl, e6⟩
    · exact absurd e4 (by decide)
    · have k1 : (8 : Int32) ≤ Int32.ofNat i := aa_le32.mpr (by rw [zz_ofN (by omega), z8]; omega)
      unfold fn_117_126b fn_236_125b
      rw [if_pos k1, if_pos k1, zz_toN (by omega)]
      have hw : w.toInt = 0 ∨ w.toInt = 1 := by omega
      rcases hw with hw | hw
      · have w0 : w = 0 := ti_eq.mpr hw
        subst w0
        rw [if_neg (c := (0 : Int32) ≠ 0) (fun z => z rfl), if_pos (c := (0 : Int32) ≠ 1) (by decide)]
        rcases e6 with ⟨f1, f2, f3⟩ | ⟨f1, f2, f3⟩
        · rw [if_neg (c := Y 550 k ≠ 0) (fun z => z f1)]
          exact ⟨_, _, rfl, rfl, f2⟩
        · rw [if_pos (c := Y 550 k ≠ 0) f1]
          exact ⟨_, _, rfl, rfl, f2⟩
      · have w1 : w = 1 := ti_eq.mpr hw
        subst w1
        rw [if_pos (c := (1 : Int32) ≠ 0) (by decide), if_neg (c := (1 : Int32) ≠ 1) (fun z => z rfl)]
        rcases e6 with ⟨f1, f2, f3⟩ | ⟨f1, f2, f3⟩
        · exact ⟨_, _, rfl, rfl, f3.trans f1.symm⟩
        · exact ⟨_, _, rfl, rfl, f3⟩
/-- the counts at first -/
theorem tl_0c {X : aa_G} {b1 b2 b3 b4 : Int32} : ∀ (n i : Nat), i + n = 8 → ∀ (A : aa_G), (∀ j, j < i → A 475 j = 0) → (∀ a j, a ≠ 475 → A a j = X a j) → ∃ A2, fn_117_43 A b1 b2 b3 b4 (Int32.ofNat i) = fn_117_70 A2 b1 b2 b3 b4 b2 ∧ (∀ j, j < 8 → A2 475 j = 0) ∧ ∀ a j, a ≠ 475 → A2 a j = X a j := by
  have z8 : (8 : Int32).toInt = 8 := rfl
  intro n
  induction n with
  | zero =>
    intro i e A h1 h2
    obtain rfl : i = 8 := by omega
    refine ⟨A, ?_, h1, h2⟩
    unfold fn_117_43
    refine lp_r ?_
    dsimp only
    unfold fn_117_43b
    rw [if_pos (by decide)]
  | succ n ih =>
    intro i e A h1 h2
    obtain ⟨A2, k1, k2⟩ := ih (i + 1) (by omega) (zz_w A 475 i 0) (fun j hj => by
      by_cases q : j = i
      · rw [q, aa_w_at]
      · rw [aa_w_ne _ _ (by omega)]
        exact h1 j (by omega)) (fun a j z => by rw [aa_w_ne _ _ (by omega)]; exact h2 a j z)
    refine ⟨A2, ?_, k2⟩
    rw [← k1]
    unfold fn_117_43
    refine lp_l ?_
    dsimp only
    unfold fn_117_43b
    rw [if_neg (c := (8 : Int32) ≤ Int32.ofNat i) (fun z => by have := aa_le32.mp z; rw [zz_ofN (by omega), z8] at this; omega), zz_toN (by omega), aa_succ]
theorem tl_0m {X : aa_G} {b1 b2 b3 b4 : Int32} : ∀ (n i : Nat), i + n = 8 → ∀ (A : aa_G), (∀ j, j < i → A 550 j = 0) → (∀ a j, a ≠ 550 → A a j = X a j) → ∃ A2, fn_236_40 A b1 b2 b3 b4 (Int32.ofNat i) = fn_236_64 A2 b1 b2 b3 b4 b2 ∧ (∀ j, j < 8 → A2 550 j = 0) ∧ ∀ a j, a ≠ 550 → A2 a j = X a j := by
  have z8 : (8 : Int32).toInt = 8 := rfl
  intro n
  induction n with
  | zero =>
    intro i e A h1 h2
    obtain rfl : i = 8 := by omega
    refine ⟨A, ?_, h1, h2⟩
    unfold fn_236_40
    refine lp_r ?_
    dsimp only
    unfold fn_236_40b
    rw [if_pos (by decide)]
  | succ n ih =>
    intro i e A h1 h2
    obtain ⟨A2, k1, k2⟩ := ih (i + 1) (by omega) (zz_w A 550 i 0) (fun j hj => by
      by_cases q : j = i
      · rw [q, aa_w_at]
      · rw [aa_w_ne _ _ (by omega)]
        exact h1 j (by omega)) (fun a j z => by rw [aa_w_ne _ _ (by omega)]; exact h2 a j z)
    refine ⟨A2, ?_, k2⟩
    rw [← k1]
    unfold fn_236_40
    refine lp_l ?_
    dsimp only
    unfold fn_236_40b
    rw [if_neg (c := (8 : Int32) ≤ Int32.ofNat i) (fun z => by have := aa_le32.mp z; rw [zz_ofN (by omega), z8] at this; omega), zz_toN (by omega), aa_succ]
theorem ak_117 {g g2 : aa_G} (W : wd_g g) (W2 : wd_g g2) (e : g2 541 = g 541) (B : br_B g g 2 0) (hb : g 4 0 = g 541 2) (a b m w : Int32) : (fn_117 g a b m w).1 = (fn_236 g2 a b m w).1 := by
  have e0 : g2 541 0 = g 541 0 := by rw [e]
  have e1 : g2 541 1 = g 541 1 := by rw [e]
  by_cases ha : 0 ≤ a.toInt ∧ a.toInt < (g 541 0).toInt
  · obtain ⟨t, ht, hat, ht2, c1, -⟩ := gt_s W ha
    by_cases hG : (0 ≤ b.toInt ∧ b.toInt ≤ 35999) ∧ (1 ≤ m.toInt ∧ m.toInt ≤ 60) ∧ (0 ≤ w.toInt ∧ w.toInt ≤ 1)
    · have hG0 := hG
      obtain ⟨hb', hm, hw⟩ := hG0
      have E1 : fn_117 g a b m w = fn_117_43 g a b m w 0 := by
        unfold fn_117
        rw [c1]
        dsimp only
        simp only [gd_91z W, ne_eq, ti_77z, ti_193z, ti_14z, ti_154z, gd_66z, gd_199z, Decidable.not_not, i_0, i_1, i_2, i_3, i_11, i_12n, i_15, i_23, i_60, i_360, i_864, i_8640, i_35, eq_self, not_true_eq_false, not_false_eq_true, and_self, or_self, if_true, if_false, hb', hm, hw]
      have E2 : fn_236 g2 a b m w = fn_236_40 g2 a b m w 0 := by
        unfold fn_236
        simp only [gd_191z W2, gd_192z W2, ti_204 W2.2.1, ne_eq, ti_77z, ti_193z, ti_14z, ti_154z, gd_66z, gd_199z, Decidable.not_not, i_0, i_1, i_2, i_3, i_11, i_12n, i_15, i_23, i_60, i_360, i_864, i_8640, i_35, eq_self, not_true_eq_false, not_false_eq_true, and_self, or_self, if_true, if_false, e0, e1, ha, hb', hm, hw]
      rw [E1, E2]
      rw [hat]
      obtain ⟨A, a1, a2, a3⟩ := tl_0c (X := g) (b1 := Int32.ofNat t) (b2 := b) (b3 := m) (b4 := w) 8 0 (by omega) g (fun j hj => absurd hj (Nat.not_lt_zero j)) (fun _ _ _ => rfl)
      obtain ⟨A', a1', a2', a3'⟩ := tl_0m (X := g2) (b1 := Int32.ofNat t) (b2 := b) (b3 := m) (b4 := w) 8 0 (by omega) g2 (fun j hj => absurd hj (Nat.not_lt_zero j)) (fun _ _ _ => rfl)
      rw [show (0 : Int32) = Int32.ofNat 0 from rfl, a1, a1']
      unfold fn_117_70 fn_236_64
      have eb : (b + m).toInt = b.toInt + m.toInt := aa_add32 (by omega) (by omega)
      have z0 : (0 : Int32).toInt = 0 := rfl
      refine lp_two1 (fun (n' : Nat) (s t' : aa_G × Int32) => t'.2.toInt + n' = b.toInt + m.toInt ∧ (b.toInt ≤ s.2.toInt ∧ s.2.toInt ≤ 36000) ∧ (s.2.toInt = t'.2.toInt ∨ (36000 ≤ s.2.toInt ∧ s.2.toInt ≤ t'.2.toInt)) ∧ tl_r s.1 t'.1 (16 * (s.2.toInt - b.toInt)) ∧ (wd_g s.1 ∧ s.1 541 = g 541 ∧ br_B s.1 s.1 2 0 ∧ s.1 4 0 = s.1 541 2) ∧ (wd_g t'.1 ∧ t'.1 541 = g 541)) ?_ ?_ m.toInt.toNat _ _ ⟨by first | omega | (dsimp only; omega), by first | omega | (dsimp only; omega), .inl rfl, fun k hk => ⟨(a2 k hk).trans (a2' k hk).symm, by dsimp only; rw [a2' k hk, z0]; exact Int.le_refl 0, by dsimp only; rw [a2' k hk, z0]; omega⟩, ⟨wd_of W (fun k j z => a3 k j (by omega)), funext fun j => a3 541 j (by omega), br_go (gc := g) (gm := g) (S := 2) (r := 0) (a3 4 0 (by omega)) (fun o j o1 o2 _ => a3 (4 + o) j (by omega)) (fun q _ _ => a3 541 _ (by omega)) B, (a3 4 0 (by omega)).trans (hb.trans (a3 541 2 (by omega)).symm)⟩, wd_of W2 (fun k j z => a3' k j (by omega)), (funext fun j => a3' 541 j (by omega)).trans e⟩
      · rintro n' ⟨X, i⟩ ⟨Y, j⟩ ⟨r1, r2, r5, r6, ⟨w1, w2, wB, wb⟩, w3, w4⟩
        dsimp only at r1 r2 r5 r6 w1 w2 wB wb w3 w4 ⊢
        have n3 : ¬ b + m ≤ j := fun z => by have := aa_le32.mp z; omega
        have es : (j + 1).toInt = j.toInt + 1 := i_suc (by omega) (by omega)
        unfold fn_236_64b
        rw [if_neg n3]
        by_cases hi : i.toInt < 36000
        · have r5 : i = j := ti_eq.mpr (by omega)
          subst r5
          have n1 : ¬ (36000 : Int32) ≤ i := fun z => by have := aa_le32.mp z; rw [i_36] at this; omega
          obtain ⟨N, M, R, fx, fy⟩ := rp_of (Q := 463) (t := t) (d := i) (.inl rfl) w1 w3 (w4.trans w2.symm) wB wb (by rw [w2]; exact ht2) (by omega)
          unfold fn_117_70b
          rw [if_neg n3, if_neg n1]
          generalize fn_103 X 463 (Int32.ofNat t) i = X' at R fx ⊢
          generalize fn_212 Y (Int32.ofNat t) i = Y' at R fy ⊢
          have q1 := R.2.2.2.1
          have q2 := R.2.2.2.2.1
          have q3 := R.2.2.2.2.2.2.2
          have hN := R.1
          obtain ⟨X2, Y2, v1, v2, v3, v4, v5⟩ := tl_118 (b1 := Int32.ofNat t) (b2 := b) (b3 := m) (b4 := w) (b5 := i) (D := 16 * (i.toInt - b.toInt)) R (by omega) (fun k hk => by rw [fx 475 k (by omega), fy 550 k (by omega) (by omega) (by omega) (by omega) (by omega)]; exact r6 k hk)
          unfold fn_117_100 fn_117_111 fn_236_79
          rw [v1, v2]
          exact .inl ⟨_, _, rfl, rfl, by first | omega | (dsimp only; omega), by first | omega | (dsimp only; omega), .inl rfl, fun k hk => ⟨(v3 k hk).1, (v3 k hk).2.1, by have := (v3 k hk).2.2; dsimp only; omega⟩, ⟨wd_of q1.1 (fun k j z => v4 k j (by omega)), (funext fun j => v4 541 j (by omega)).trans (q1.2.trans w2), br_go (gc := X') (gm := X') (S := 2) (r := 0) (v4 4 0 (by omega)) (fun o j o1 o2 _ => v4 (4 + o) j (by omega)) (fun q _ _ => v4 541 _ (by omega)) q3.1, (v4 4 0 (by omega)).trans (q3.2.trans (v4 541 2 (by omega)).symm)⟩, wd_of q2.1 (fun k j z => v5 k j (by omega)), (funext fun j => v5 541 j (by omega)).trans (q2.2.trans w2)⟩
        · obtain ⟨q1, q2, q3, q4⟩ := mz_212 (t := t) (d := j) w1 w3 (w4.trans w2.symm) wB wb (by rw [w2]; exact ht2) (by omega)
          generalize fn_212 Y (Int32.ofNat t) j = Y' at q1 q2 q3 q4 ⊢
          unfold fn_236_79
          have k : fn_236_82 Y' (Int32.ofNat t) b m w j 0 = .inl (Y', j + 1) := by
            unfold fn_236_82
            refine lp_r ?_
            dsimp only
            unfold fn_236_82b
            rw [q3, if_pos (by decide)]
          rw [k]
          exact .inr (.inl ⟨_, rfl, by first | omega | (dsimp only; omega), by first | omega | (dsimp only; omega), .inr (by first | omega | (dsimp only; omega)), fun k hk => by dsimp only; rw [q4 550 k (by omega)]; exact r6 k hk, ⟨w1, w2, wB, wb⟩, q1, q2.trans w2⟩)
      · rintro ⟨X, i⟩ ⟨Y, j⟩ ⟨r1, r2, r5, r6, -⟩
        dsimp only at r1 r2 r5 r6 ⊢
        have fin := tl_max (w := w) (by omega) r6 hw
        unfold fn_117_70b fn_236_64b
        rw [if_pos (c := b + m ≤ j) (aa_le32.mpr (by omega))]
        by_cases n1 : b + m ≤ i
        · rw [if_pos n1]
          exact ⟨_, _, rfl, rfl, fin⟩
        · rw [if_neg n1, if_pos (c := (36000 : Int32) ≤ i) (aa_le32.mpr (by rw [i_36]; have := mt aa_le32.mpr n1; omega))]
          exact ⟨_, _, rfl, rfl, fin⟩
    · have E1 : (fn_117 g a b m w).1 = -1 := by
        unfold fn_117
        rw [c1]
        dsimp only
        simp only [gd_91z W, ne_eq, ti_77z, ti_193z, ti_14z, ti_154z, gd_66z, gd_199z, Decidable.not_not, i_0, i_1, i_2, i_3, i_11, i_12n, i_15, i_23, i_60, i_360, i_864, i_8640, i_35, eq_self, not_true_eq_false, not_false_eq_true, and_self, or_self, if_true, if_false]
        repeat' split
        all_goals first | rfl | (exfalso; omega)
      have E2 : (fn_236 g2 a b m w).1 = -1 := by
        unfold fn_236
        simp only [gd_191z W2, gd_192z W2, ti_204 W2.2.1, ne_eq, ti_77z, ti_193z, ti_14z, ti_154z, gd_66z, gd_199z, Decidable.not_not, i_0, i_1, i_2, i_3, i_11, i_12n, i_15, i_23, i_60, i_360, i_864, i_8640, i_35, eq_self, not_true_eq_false, not_false_eq_true, and_self, or_self, if_true, if_false, e0, e1, ha]
        repeat' split
        all_goals first | rfl | (exfalso; omega)
      rw [E1, E2]
  · have E1 : (fn_117 g a b m w).1 = -1 := by
      unfold fn_117
      simp only [gt_n W ha]
    have E2 : (fn_236 g2 a b m w).1 = -1 := by
      unfold fn_236
      simp only [gd_191z W2, gd_192z W2, ti_204 W2.2.1, ne_eq, ti_77z, ti_193z, ti_14z, ti_154z, gd_66z, gd_199z, Decidable.not_not, i_0, i_1, i_2, i_3, i_11, i_12n, i_15, i_23, i_60, i_360, i_864, i_8640, i_35, eq_self, not_true_eq_false, not_false_eq_true, and_self, or_self, if_true, if_false, e0, e1]
      repeat' split
      all_goals first | rfl | (exfalso; omega)
    rw [E1, E2]
