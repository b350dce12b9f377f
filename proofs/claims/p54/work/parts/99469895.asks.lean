/-! RINGS: strokes, soonest, clash, quiet: both sides say the same -/
/-- the rings of a DAY on both sides, packed -/
def rp (g : aa_G) (X Y : aa_G) (Q N M : Nat) : Prop := N ≤ 16 ∧ M ≤ 8 ∧ rg_r X Y Q N M ∧ (wd_g X ∧ X 541 = g 541) ∧ (wd_g Y ∧ Y 541 = g 541) ∧ X 4 0 = Int32.ofNat M ∧ (∀ k, k < M → X 8 k = g 541 (203 + 7 * k + 3)) ∧ br_B X X 2 0 ∧ X 4 0 = X 541 2
theorem rp_of {g g2 : aa_G} {t Q : Nat} {d : Int32} (hQ : Q = 463 ∨ Q = 469) (W : wd_g g) (W2 : wd_g g2) (e : g2 541 = g 541) (B : br_B g g 2 0) (hb : g 4 0 = g 541 2) (ht : (t : Int) < (g 541 0).toInt) (hd : 0 ≤ d.toInt ∧ d.toInt ≤ 35999) : ∃ N M, rp g (fn_103 g Q (Int32.ofNat t) d) (fn_212 g2 (Int32.ofNat t) d) Q N M ∧ (∀ a j, ¬ (Q ≤ a ∧ a ≤ Q + 5) → fn_103 g Q (Int32.ofNat t) d a j = g a j) ∧ ∀ a j, a ≠ 546 → a ≠ 547 → a ≠ 548 → a ≠ 549 → ¬ (a = 540 ∧ 13 ≤ j ∧ j ≤ 26) → fn_212 g2 (Int32.ofNat t) d a j = g2 a j := by
  obtain ⟨M, hM, m0, hB, w1, x1, f1, X0, N, n1, n2, n3, n4, n5, n6⟩ := ga_all hQ W W2 e B hb ht hd
  have x40 : fn_103 g Q (Int32.ofNat t) d 4 0 = g 4 0 := f1 4 0 (by omega)
  refine ⟨N, M, ⟨by omega, hM, n2, ⟨w1, x1⟩, ⟨n4, n5⟩, x40.trans m0, fun k hk => ?_, ?_, ?_⟩, f1, n6⟩
  · obtain ⟨F, T0, ts, c0, cs, b1, b2, -⟩ := hB k hk
    rw [f1 8 k (by omega)]
    exact b1.1.2.2.2.1.trans (b2.1.2.2.2.1.symm)
  · exact br_go (gc := g) (gm := g) (S := 2) (r := 0) (f1 4 0 (by omega)) (fun o j o1 o2 _ => f1 (4 + o) j (by omega)) (fun q _ _ => by rw [x1]) B
  · rw [x40, x1]
    exact hb
/-- a sum over places -/
def su (f : Nat → Int32) : Nat → Nat → Int32 → Int32
  | _, 0, a => a
  | i, k + 1, a => su f (i + 1) k (a + f i)
theorem su_add (f : Nat → Int32) : ∀ (k i : Nat) (a b : Int32), su f i k (a + b) = a + su f i k b
  | 0, _, _, _ => rfl
  | k + 1, i, a, b => by
    show su f (i + 1) k (a + b + f i) = a + su f (i + 1) k (b + f i)
    rw [Int32.add_assoc, su_add f k (i + 1) a (b + f i)]
theorem su_0 (f : Nat → Int32) (k i : Nat) (a : Int32) : su f i k a = a + su f i k 0 := by
  rw [← su_add, Int32.add_zero]
theorem su_eq {f h : Nat → Int32} : ∀ (k i : Nat) (a : Int32), (∀ j, i ≤ j → j < i + k → f j = h j) → su f i k a = su h i k a
  | 0, _, _, _ => rfl
  | k + 1, i, a, e => by
    show su f (i + 1) k (a + f i) = su h (i + 1) k (a + h i)
    rw [e i (Nat.le_refl _) (by omega), su_eq k (i + 1) _ fun j h1 h2 => e j (by omega) (by omega)]
/-- STROKES of a ring -/
def st_f (T : Nat → Int32) (Y : aa_G) (i : Nat) : Int32 := T ((203 + 7 * Y 547 i) + 3).toNatClampNeg
theorem st_c {g X Y : aa_G} {Q N M i : Nat} (h : rp g X Y Q N M) (hi : i < N) : fn_111 X (X (Q + 2) i) = st_f (g 541) Y i ∧ fn_217 Y (Int32.ofNat i) = st_f (g 541) Y i := by
  obtain ⟨hN, hM, ⟨-, -, v⟩, -, ⟨-, y1⟩, m0, m8, -, -⟩ := h
  obtain ⟨-, v2, -, k, hk, v4⟩ := v i hi
  have e203 : (203 : Int32) + 7 * Int32.ofNat k + 3 = Int32.ofNat (203 + 7 * k + 3) := by rw [mb_7 (by omega), show (203 : Int32) + Int32.ofNat (7 * k) = Int32.ofNat (203 + 7 * k) from i_add 203 (7 * k), mb_add _ 3 (v := 3) rfl]
  constructor
  · unfold fn_111 st_f
    rw [v2, v4, m0, cb_pred (by omega) (by omega), if_neg (c := fn_14 (Int32.ofNat k) 0 (Int32.ofNat (M - 1)) = 0) (fun z => ti_14z.mp z (by rw [zz_ofN (by omega), zz_ofN (by omega), i_0]; omega)), zz_toN (by omega), e203, zz_toN (by omega)]
    exact m8 k hk
  · unfold fn_217 st_f
    rw [y1, zz_toN (by omega)]
theorem st_113 {g X Y : aa_G} {Q N M : Nat} (h : rp g X Y Q N M) : ∀ (k i : Nat) (a : Int32), i + k = N → fn_113_4 X Q a (Int32.ofNat i) = su (st_f (g 541) Y) i k a := by
  have hN := h.1
  have h0 := h.2.2.1.1
  intro k
  induction k with
  | zero =>
    intro i a e
    obtain rfl : i = N := by omega
    unfold fn_113_4
    refine lp_r ?_
    dsimp only
    unfold fn_113_4b
    rw [h0, if_pos (aa_le32.mpr (Int.le_refl _))]
    rfl
  | succ k ih =>
    intro i a e
    have c := (st_c h (i := i) (by omega)).1
    show fn_113_4 X Q a (Int32.ofNat i) = su (st_f (g 541) Y) (i + 1) k (a + st_f (g 541) Y i)
    rw [← ih (i + 1) _ (by omega)]
    unfold fn_113_4
    refine lp_l ?_
    dsimp only
    unfold fn_113_4b
    rw [h0, if_neg (c := Int32.ofNat N ≤ Int32.ofNat i) (fun z => by have := aa_le32.mp z; rw [zz_ofN (by omega), zz_ofN (by omega)] at this; omega), zz_toN (by omega), c, aa_succ]
theorem st_218 {g X Y : aa_G} {Q N M : Nat} (h : rp g X Y Q N M) : ∀ (k i : Nat) (a : Int32), i + k = N → fn_218_22 Y a (Int32.ofNat i) = (su (st_f (g 541) Y) i k a, Y) := by
  have hN := h.1
  have h0 := h.2.2.1.2.1
  intro k
  induction k with
  | zero =>
    intro i a e
    obtain rfl : i = N := by omega
    unfold fn_218_22
    refine lp_r ?_
    dsimp only
    unfold fn_218_22b
    rw [h0, if_pos (aa_le32.mpr (Int.le_refl _))]
    rfl
  | succ k ih =>
    intro i a e
    have c := (st_c h (i := i) (by omega)).2
    show fn_218_22 Y a (Int32.ofNat i) = (su (st_f (g 541) Y) (i + 1) k (a + st_f (g 541) Y i), Y)
    rw [← ih (i + 1) _ (by omega)]
    unfold fn_218_22
    refine lp_l ?_
    dsimp only
    unfold fn_218_22b
    rw [h0, if_neg (c := Int32.ofNat N ≤ Int32.ofNat i) (fun z => by have := aa_le32.mp z; rw [zz_ofN (by omega), zz_ofN (by omega)] at this; omega), c, aa_succ]
theorem st_246 {g X Y : aa_G} {Q N M : Nat} {b1 b2 b3 b5 : Int32} (h : rp g X Y Q N M) : ∀ (k i : Nat) (a : Int32), i + k = N → fn_246_51 Y b1 b2 b3 a b5 (Int32.ofNat i) = .inl (Y, su (st_f (g 541) Y) i k a, b5 + 1) := by
  have hN := h.1
  have h0 := h.2.2.1.2.1
  intro k
  induction k with
  | zero =>
    intro i a e
    obtain rfl : i = N := by omega
    unfold fn_246_51
    refine lp_r ?_
    dsimp only
    unfold fn_246_51b
    rw [h0, if_pos (aa_le32.mpr (Int.le_refl _))]
    rfl
  | succ k ih =>
    intro i a e
    have c := (st_c h (i := i) (by omega)).2
    show fn_246_51 Y b1 b2 b3 a b5 (Int32.ofNat i) = .inl (Y, su (st_f (g 541) Y) (i + 1) k (a + st_f (g 541) Y i), b5 + 1)
    rw [← ih (i + 1) _ (by omega)]
    unfold fn_246_51
    refine lp_l ?_
    dsimp only
    unfold fn_246_51b
    rw [h0, if_neg (c := Int32.ofNat N ≤ Int32.ofNat i) (fun z => by have := aa_le32.mp z; rw [zz_ofN (by omega), zz_ofN (by omega)] at this; omega), c, aa_succ]
theorem ak_112 {g g2 : aa_G} (W : wd_g g) (W2 : wd_g g2) (e : g2 541 = g 541) (B : br_B g g 2 0) (hb : g 4 0 = g 541 2) (a b : Int32) : (fn_112 g a b).1 = (fn_218 g2 a b).1 := by
  have e0 : g2 541 0 = g 541 0 := by rw [e]
  have e1 : g2 541 1 = g 541 1 := by rw [e]
  by_cases ha : 0 ≤ a.toInt ∧ a.toInt < (g 541 0).toInt
  · obtain ⟨t, ht, hat, ht2, c1, -⟩ := gt_s W ha
    by_cases hG : (0 ≤ b.toInt ∧ b.toInt ≤ 35999)
    · have hG0 := hG
      have hb' := hG0
      have E1 : fn_112 g a b = fn_112_33 (fn_103 g 463 a b) := by
        unfold fn_112
        rw [c1]
        dsimp only
        simp only [gd_91z W, ne_eq, ti_77z, ti_193z, ti_14z, ti_154z, gd_66z, gd_199z, Decidable.not_not, i_0, i_1, i_2, i_3, i_11, i_12n, i_15, i_23, i_60, i_360, i_864, i_8640, i_35, eq_self, not_true_eq_false, not_false_eq_true, and_self, or_self, if_true, if_false, hb']
      have E2 : fn_218 g2 a b = fn_218_17 (fn_212 g2 a b) := by
        unfold fn_218
        simp only [gd_191z W2, gd_192z W2, ti_204 W2.2.1, ne_eq, ti_77z, ti_193z, ti_14z, ti_154z, gd_66z, gd_199z, Decidable.not_not, i_0, i_1, i_2, i_3, i_11, i_12n, i_15, i_23, i_60, i_360, i_864, i_8640, i_35, eq_self, not_true_eq_false, not_false_eq_true, and_self, or_self, if_true, if_false, e0, e1, ha, hb']
      rw [E1, E2]
      rw [hat]
      obtain ⟨N, M, R, fx, fy⟩ := rp_of (Q := 463) (t := t) (d := b) (.inl rfl) W W2 e B hb ht2 hb'
      generalize fn_103 g 463 (Int32.ofNat t) b = X at R fx ⊢
      generalize fn_212 g2 (Int32.ofNat t) b = Y at R fy ⊢
      have hN := R.1
      have h0 := R.2.2.1.1
      have h1 := R.2.2.1.2.1
      have hv := R.2.2.1.2.2
      unfold fn_112_33 fn_113 fn_218_17
      rw [show (0 : Int32) = Int32.ofNat 0 from rfl, st_113 R N 0 _ (by omega), st_218 R N 0 _ (by omega)]
    · have E1 : (fn_112 g a b).1 = -1 := by
        unfold fn_112
        rw [c1]
        dsimp only
        simp only [gd_91z W, ne_eq, ti_77z, ti_193z, ti_14z, ti_154z, gd_66z, gd_199z, Decidable.not_not, i_0, i_1, i_2, i_3, i_11, i_12n, i_15, i_23, i_60, i_360, i_864, i_8640, i_35, eq_self, not_true_eq_false, not_false_eq_true, and_self, or_self, if_true, if_false]
        repeat' split
        all_goals first | rfl | (exfalso; omega)
      have E2 : (fn_218 g2 a b).1 = -1 := by
        unfold fn_218
        simp only [gd_191z W2, gd_192z W2, ti_204 W2.2.1, ne_eq, ti_77z, ti_193z, ti_14z, ti_154z, gd_66z, gd_199z, Decidable.not_not, i_0, i_1, i_2, i_3, i_11, i_12n, i_15, i_23, i_60, i_360, i_864, i_8640, i_35, eq_self, not_true_eq_false, not_false_eq_true, and_self, or_self, if_true, if_false, e0, e1, ha]
        repeat' split
        all_goals first | rfl | (exfalso; omega)
      rw [E1, E2]
  · have E1 : (fn_112 g a b).1 = -1 := by
      unfold fn_112
      simp only [gt_n W ha]
    have E2 : (fn_218 g2 a b).1 = -1 := by
      unfold fn_218
      simp only [gd_191z W2, gd_192z W2, ti_204 W2.2.1, ne_eq, ti_77z, ti_193z, ti_14z, ti_154z, gd_66z, gd_199z, Decidable.not_not, i_0, i_1, i_2, i_3, i_11, i_12n, i_15, i_23, i_60, i_360, i_864, i_8640, i_35, eq_self, not_true_eq_false, not_false_eq_true, and_self, or_self, if_true, if_false, e0, e1]
      repeat' split
      all_goals first | rfl | (exfalso; omega)
    rw [E1, E2]
theorem ak_115 {g g2 : aa_G} (W : wd_g g) (W2 : wd_g g2) (e : g2 541 = g 541) (B : br_B g g 2 0) (hb : g 4 0 = g 541 2) (a b c : Int32) : (fn_115 g a b c).1 = (fn_219 g2 a b c).1 := by
  have e0 : g2 541 0 = g 541 0 := by rw [e]
  have e1 : g2 541 1 = g 541 1 := by rw [e]
  by_cases ha : 0 ≤ a.toInt ∧ a.toInt < (g 541 0).toInt
  · obtain ⟨t, ht, hat, ht2, c1, -⟩ := gt_s W ha
    by_cases hG : (0 ≤ b.toInt ∧ b.toInt ≤ 35999) ∧ (0 ≤ c.toInt ∧ c.toInt ≤ 86399)
    · have hG0 := hG
      obtain ⟨hb', hc⟩ := hG0
      have E1 : fn_115 g a b c = fn_115_40 (fn_103 g 463 a b) a b c := by
        unfold fn_115
        rw [c1]
        dsimp only
        simp only [gd_91z W, ne_eq, ti_77z, ti_193z, ti_14z, ti_154z, gd_66z, gd_199z, Decidable.not_not, i_0, i_1, i_2, i_3, i_11, i_12n, i_15, i_23, i_60, i_360, i_864, i_8640, i_35, eq_self, not_true_eq_false, not_false_eq_true, and_self, or_self, if_true, if_false, hb', hc]
      have E2 : fn_219 g2 a b c = fn_219_24 (fn_212 g2 a b) a b c := by
        unfold fn_219
        simp only [gd_191z W2, gd_192z W2, ti_204 W2.2.1, ne_eq, ti_77z, ti_193z, ti_14z, ti_154z, gd_66z, gd_199z, Decidable.not_not, i_0, i_1, i_2, i_3, i_11, i_12n, i_15, i_23, i_60, i_360, i_864, i_8640, i_35, eq_self, not_true_eq_false, not_false_eq_true, and_self, or_self, if_true, if_false, e0, e1, ha, hb', hc]
      rw [E1, E2]
      rw [hat]
      obtain ⟨N, M, R, fx, fy⟩ := rp_of (Q := 463) (t := t) (d := b) (.inl rfl) W W2 e B hb ht2 hb'
      generalize fn_103 g 463 (Int32.ofNat t) b = X at R fx ⊢
      generalize fn_212 g2 (Int32.ofNat t) b = Y at R fy ⊢
      have hN := R.1
      have h0 := R.2.2.1.1
      have h1 := R.2.2.1.2.1
      have hv := R.2.2.1.2.2
      unfold fn_115_40 fn_115_43 fn_219_24 fn_219_27
      have last : ∃ r k : Int32 × aa_G, fn_115_103 (fn_103 X 463 (Int32.ofNat t) (b + 1)) c = r ∧ (if b ≠ 35999 then (Sum.inr (fn_219_80 (fn_212 Y (Int32.ofNat t) (b + 1)) c) : Int32 ⊕ (Int32 × aa_G)) else .inr (-2, Y)) = .inr k ∧ r.1 = k.1 := by
        by_cases z : b = 35999
        · refine ⟨_, (-2, Y), rfl, by rw [if_neg (fun h => h z)], ?_⟩
          have e36 : fn_103 X 463 (Int32.ofNat t) (b + 1) = zz_w X 463 0 0 := by
            unfold fn_103
            rw [if_neg (c := fn_77 (b + 1) ≠ 0) (fun h => by have := ti_77n.mp h; rw [z] at this; exact absurd this (by decide))]
          rw [e36]
          unfold fn_115_103
          rw [aa_w_at, if_pos (c := (0 : Int32) ≤ 0) (by decide)]
        · have z' := ti_ne.mp z
          rw [i_35] at z'
          have eb : (b + 1).toInt = b.toInt + 1 := i_suc (by omega) (by omega)
          obtain ⟨-, -, -, ⟨wX, xX⟩, ⟨wY, yY⟩, -, -, BX, bX⟩ := R
          obtain ⟨N2, M2, R2, -, -⟩ := rp_of (Q := 463) (t := t) (d := b + 1) (.inl rfl) wX wY (yY.trans xX.symm) BX bX (by rw [xX]; exact ht2) (by omega)
          refine ⟨_, fn_219_80 (fn_212 Y (Int32.ofNat t) (b + 1)) c, rfl, by rw [if_pos z], ?_⟩
          generalize fn_103 X 463 (Int32.ofNat t) (b + 1) = X2 at R2 ⊢
          generalize fn_212 Y (Int32.ofNat t) (b + 1) = Y2 at R2 ⊢
          have k0 := R2.2.2.1.1
          have k1 := R2.2.2.1.2.1
          have kv := R2.2.2.1.2.2
          have kN := R2.1
          unfold fn_115_103 fn_219_80
          rw [k0, k1, show (0 : Int32).toNatClampNeg = 0 from rfl]
          by_cases n0 : N2 = 0
          · subst n0
            rw [if_pos (c := Int32.ofNat 0 ≤ 0) (by decide), if_neg (c := Int32.ofNat 0 ≠ 0) (fun h => h rfl)]
          · rw [if_neg (c := Int32.ofNat N2 ≤ 0) (fun h => by have := aa_le32.mp h; rw [zz_ofN (by omega), i_0] at this; omega), if_pos (c := Int32.ofNat N2 ≠ 0) (fun h => by have := congrArg Int32.toInt h; rw [zz_ofN (by omega), i_0] at this; omega), (kv 0 (by omega)).1]
            dsimp only
            simp only [Int32.sub_eq_add_neg, Int32.add_assoc, Int32.add_comm, i_lc]
      refine lp_two1 (fun (n' : Nat) (s t' : Int32) => ∃ i : Nat, i + n' = N ∧ s = Int32.ofNat i ∧ t' = Int32.ofNat i) ?_ ?_ N _ _ ⟨0, by omega, rfl, rfl⟩
      · rintro n' s t' ⟨i, r1, rfl, rfl⟩
        skip
        have k1 : ¬ Int32.ofNat N ≤ Int32.ofNat i := fun z => by have := aa_le32.mp z; rw [zz_ofN (by omega), zz_ofN (by omega)] at this; omega
        unfold fn_115_43b fn_219_27b
        rw [h0, h1, if_neg k1, if_neg k1, zz_toN (by omega), (hv i (by omega)).1]
        by_cases z : Y 546 i < c
        · rw [if_pos z, if_pos z, aa_succ]
          exact .inl ⟨_, _, rfl, rfl, i + 1, by omega, rfl, rfl⟩
        · rw [if_neg z, if_neg z]
          exact .inr (.inr (.inr ⟨_, _, rfl, rfl, rfl⟩))
      · rintro s t' ⟨i, r1, rfl, rfl⟩
        skip
        have k1 : Int32.ofNat N ≤ Int32.ofNat i := aa_le32.mpr (by rw [zz_ofN (by omega), zz_ofN (by omega)]; omega)
        unfold fn_115_43b fn_219_27b
        rw [h0, h1, if_pos k1, if_pos k1]
        obtain ⟨r, k, q1, q2, q3⟩ := last
        exact ⟨r, k, congrArg Sum.inr q1, q2, q3⟩
    · have E1 : (fn_115 g a b c).1 = -1 := by
        unfold fn_115
        rw [c1]
        dsimp only
        simp only [gd_91z W, ne_eq, ti_77z, ti_193z, ti_14z, ti_154z, gd_66z, gd_199z, Decidable.not_not, i_0, i_1, i_2, i_3, i_11, i_12n, i_15, i_23, i_60, i_360, i_864, i_8640, i_35, eq_self, not_true_eq_false, not_false_eq_true, and_self, or_self, if_true, if_false]
        repeat' split
        all_goals first | rfl | (exfalso; omega)
      have E2 : (fn_219 g2 a b c).1 = -1 := by
        unfold fn_219
        simp only [gd_191z W2, gd_192z W2, ti_204 W2.2.1, ne_eq, ti_77z, ti_193z, ti_14z, ti_154z, gd_66z, gd_199z, Decidable.not_not, i_0, i_1, i_2, i_3, i_11, i_12n, i_15, i_23, i_60, i_360, i_864, i_8640, i_35, eq_self, not_true_eq_false, not_false_eq_true, and_self, or_self, if_true, if_false, e0, e1, ha]
        repeat' split
        all_goals first | rfl | (exfalso; omega)
      rw [E1, E2]
  · have E1 : (fn_115 g a b c).1 = -1 := by
      unfold fn_115
      simp only [gt_n W ha]
    have E2 : (fn_219 g2 a b c).1 = -1 := by
      unfold fn_219
      simp only [gd_191z W2, gd_192z W2, ti_204 W2.2.1, ne_eq, ti_77z, ti_193z, ti_14z, ti_154z, gd_66z, gd_199z, Decidable.not_not, i_0, i_1, i_2, i_3, i_11, i_12n, i_15, i_23, i_60, i_360, i_864, i_8640, i_35, eq_self, not_true_eq_false, not_false_eq_true, and_self, or_self, if_true, if_false, e0, e1]
      repeat' split
      all_goals first | rfl | (exfalso; omega)
    rw [E1, E2]
theorem ak_116 {g g2 : aa_G} (W : wd_g g) (W2 : wd_g g2) (e : g2 541 = g 541) (B : br_B g g 2 0) (hb : g 4 0 = g 541 2) (a b c : Int32) : (fn_116 g a b c).1 = (fn_220 g2 a b c).1 := by
  have e0 : g2 541 0 = g 541 0 := by rw [e]
  have e1 : g2 541 1 = g 541 1 := by rw [e]
  by_cases ha : 0 ≤ a.toInt ∧ a.toInt < (g 541 0).toInt
  · obtain ⟨t, ht, hat, ht2, c1, -⟩ := gt_s W ha
    by_cases hG : (0 ≤ b.toInt ∧ b.toInt ≤ 35999) ∧ (0 ≤ c.toInt ∧ c.toInt ≤ 86400)
    · have hG0 := hG
      obtain ⟨hb', hc⟩ := hG0
      have E1 : fn_116 g a b c = fn_116_43 (fn_103 g 463 a b) c := by
        unfold fn_116
        rw [c1]
        dsimp only
        simp only [gd_91z W, ne_eq, ti_77z, ti_193z, ti_14z, ti_154z, gd_66z, gd_199z, Decidable.not_not, i_0, i_1, i_2, i_3, i_11, i_12n, i_15, i_23, i_60, i_360, i_864, i_8640, i_35, eq_self, not_true_eq_false, not_false_eq_true, and_self, or_self, if_true, if_false, hb', hc]
      have E2 : fn_220 g2 a b c = fn_220_27 (fn_212 g2 a b) c := by
        unfold fn_220
        simp only [gd_191z W2, gd_192z W2, ti_204 W2.2.1, ne_eq, ti_77z, ti_193z, ti_14z, ti_154z, gd_66z, gd_199z, Decidable.not_not, i_0, i_1, i_2, i_3, i_11, i_12n, i_15, i_23, i_60, i_360, i_864, i_8640, i_35, eq_self, not_true_eq_false, not_false_eq_true, and_self, or_self, if_true, if_false, e0, e1, ha, hb', hc]
      rw [E1, E2]
      rw [hat]
      obtain ⟨N, M, R, fx, fy⟩ := rp_of (Q := 463) (t := t) (d := b) (.inl rfl) W W2 e B hb ht2 hb'
      generalize fn_103 g 463 (Int32.ofNat t) b = X at R fx ⊢
      generalize fn_212 g2 (Int32.ofNat t) b = Y at R fy ⊢
      have hN := R.1
      have h0 := R.2.2.1.1
      have h1 := R.2.2.1.2.1
      have hv := R.2.2.1.2.2
      unfold fn_116_43 fn_116_49 fn_220_27 fn_220_33
      refine lp_two1 (fun (n' : Nat) (s t' : Int32 × Int32) => ∃ i : Nat, 1 ≤ i ∧ i ≤ 17 ∧ i + n' = max N 1 ∧ s.2 = Int32.ofNat i ∧ t' = s) ?_ ?_ (max N 1 - 1) _ _ ⟨1, Nat.le_refl 1, by omega, by omega, rfl, rfl⟩
      · rintro n' ⟨s, j⟩ ⟨s', j'⟩ ⟨i, r0, r01, r1, r2, r3⟩
        cases r3
        dsimp only at r2 ⊢
        subst r2
        have k1 : ¬ Int32.ofNat N ≤ Int32.ofNat i := fun z => by have := aa_le32.mp z; rw [zz_ofN (by omega), zz_ofN (by omega)] at this; omega
        unfold fn_116_49b fn_220_33b fn_116_91 fn_220_70
        rw [h0, h1, if_neg k1, if_neg k1, cb_pred (by omega) (by omega), zz_toN (by omega), zz_toN (by omega), (hv i (by omega)).1, (hv (i - 1) (by omega)).1, aa_succ]
        by_cases z : c ≤ Y 546 i - Y 546 (i - 1)
        · rw [if_pos z, if_pos z, Int32.add_zero]
          exact .inl ⟨_, _, rfl, rfl, i + 1, by omega, by omega, by omega, rfl, rfl⟩
        · rw [if_neg z, if_neg z]
          exact .inl ⟨_, _, rfl, rfl, i + 1, by omega, by omega, by omega, rfl, rfl⟩
      · rintro ⟨s, j⟩ ⟨s', j'⟩ ⟨i, r0, r01, r1, r2, r3⟩
        cases r3
        dsimp only at r2 ⊢
        subst r2
        have k1 : Int32.ofNat N ≤ Int32.ofNat i := aa_le32.mpr (by rw [zz_ofN (by omega), zz_ofN (by omega)]; omega)
        unfold fn_116_49b fn_220_33b
        rw [h0, h1, if_pos k1, if_pos k1]
        exact ⟨_, _, rfl, rfl, rfl⟩
    · have E1 : (fn_116 g a b c).1 = -1 := by
        unfold fn_116
        rw [c1]
        dsimp only
        simp only [gd_91z W, ne_eq, ti_77z, ti_193z, ti_14z, ti_154z, gd_66z, gd_199z, Decidable.not_not, i_0, i_1, i_2, i_3, i_11, i_12n, i_15, i_23, i_60, i_360, i_864, i_8640, i_35, eq_self, not_true_eq_false, not_false_eq_true, and_self, or_self, if_true, if_false]
        repeat' split
        all_goals first | rfl | (exfalso; omega)
      have E2 : (fn_220 g2 a b c).1 = -1 := by
        unfold fn_220
        simp only [gd_191z W2, gd_192z W2, ti_204 W2.2.1, ne_eq, ti_77z, ti_193z, ti_14z, ti_154z, gd_66z, gd_199z, Decidable.not_not, i_0, i_1, i_2, i_3, i_11, i_12n, i_15, i_23, i_60, i_360, i_864, i_8640, i_35, eq_self, not_true_eq_false, not_false_eq_true, and_self, or_self, if_true, if_false, e0, e1, ha]
        repeat' split
        all_goals first | rfl | (exfalso; omega)
      rw [E1, E2]
  · have E1 : (fn_116 g a b c).1 = -1 := by
      unfold fn_116
      simp only [gt_n W ha]
    have E2 : (fn_220 g2 a b c).1 = -1 := by
      unfold fn_220
      simp only [gd_191z W2, gd_192z W2, ti_204 W2.2.1, ne_eq, ti_77z, ti_193z, ti_14z, ti_154z, gd_66z, gd_199z, Decidable.not_not, i_0, i_1, i_2, i_3, i_11, i_12n, i_15, i_23, i_60, i_360, i_864, i_8640, i_35, eq_self, not_true_eq_false, not_false_eq_true, and_self, or_self, if_true, if_false, e0, e1]
      repeat' split
      all_goals first | rfl | (exfalso; omega)
    rw [E1, E2]
theorem ak_119 {g g2 : aa_G} (W : wd_g g) (W2 : wd_g g2) (e : g2 541 = g 541) (B : br_B g g 2 0) (hb : g 4 0 = g 541 2) (a b c : Int32) : (fn_119 g a b c).1 = (fn_247 g2 a b c).1 := by
  have e0 : g2 541 0 = g 541 0 := by rw [e]
  have e1 : g2 541 1 = g 541 1 := by rw [e]
  by_cases ha : 0 ≤ a.toInt ∧ a.toInt < (g 541 0).toInt
  · obtain ⟨t, ht, hat, ht2, c1, -⟩ := gt_s W ha
    by_cases hG : (0 ≤ b.toInt ∧ b.toInt ≤ 35999) ∧ (0 ≤ c.toInt ∧ c.toInt ≤ 1)
    · have hG0 := hG
      obtain ⟨hb', hc⟩ := hG0
      have E1 : fn_119 g a b c = fn_119_42 (fn_103 g 463 a b) c := by
        unfold fn_119
        rw [c1]
        dsimp only
        simp only [gd_91z W, ne_eq, ti_77z, ti_193z, ti_14z, ti_154z, gd_66z, gd_199z, Decidable.not_not, i_0, i_1, i_2, i_3, i_11, i_12n, i_15, i_23, i_60, i_360, i_864, i_8640, i_35, eq_self, not_true_eq_false, not_false_eq_true, and_self, or_self, if_true, if_false, hb', hc]
      have E2 : fn_247 g2 a b c = fn_247_26 (fn_212 g2 a b) c := by
        unfold fn_247
        simp only [gd_191z W2, gd_192z W2, ti_204 W2.2.1, ne_eq, ti_77z, ti_193z, ti_14z, ti_154z, gd_66z, gd_199z, Decidable.not_not, i_0, i_1, i_2, i_3, i_11, i_12n, i_15, i_23, i_60, i_360, i_864, i_8640, i_35, eq_self, not_true_eq_false, not_false_eq_true, and_self, or_self, if_true, if_false, e0, e1, ha, hb', hc]
      rw [E1, E2]
      rw [hat]
      obtain ⟨N, M, R, fx, fy⟩ := rp_of (Q := 463) (t := t) (d := b) (.inl rfl) W W2 e B hb ht2 hb'
      generalize fn_103 g 463 (Int32.ofNat t) b = X at R fx ⊢
      generalize fn_212 g2 (Int32.ofNat t) b = Y at R fy ⊢
      have hN := R.1
      have h0 := R.2.2.1.1
      have h1 := R.2.2.1.2.1
      have hv := R.2.2.1.2.2
      unfold fn_119_42 fn_119_54 fn_247_26 fn_247_35
      refine lp_two1 (fun (n' : Nat) (s : Int32 × Int32 × Int32 × Int32) (t' : Int32 × Int32 × Int32) => ∃ i : Nat, i + n' = N + 1 ∧ (i ≤ N → s.1 = if i = 0 then 0 else Y 546 (i - 1)) ∧ s.2.1 = t'.1 ∧ s.2.2.1 = t'.2.1 ∧ s.2.2.2 = Int32.ofNat i ∧ t'.2.2 = Int32.ofNat i) ?_ ?_ (N + 1) _ _ ⟨0, by omega, fun _ => rfl, rfl, rfl, rfl, rfl⟩
      · rintro n' ⟨p, q, r, j⟩ ⟨q', r', j'⟩ ⟨i, r1, r2, r3, r4, r5, r6⟩
        dsimp only at r2 r3 r4 r5 r6 ⊢
        subst r3 r4 r5 r6
        have hp := r2 (by omega)
        have k1 : ¬ Int32.ofNat N < Int32.ofNat i := fun z => by have := ti_lt.mp z; rw [zz_ofN (by omega), zz_ofN (by omega)] at this; omega
        unfold fn_119_54b fn_247_35b
        rw [h0, h1, if_neg k1, if_neg k1]
        have em : (if Int32.ofNat i ≠ 0 then fn_247_62 Y c q r (Int32.ofNat i) (Y 546 (Int32.ofNat i - 1).toNatClampNeg) else fn_247_62 Y c q r (Int32.ofNat i) 0) = fn_247_62 Y c q r (Int32.ofNat i) p := by
          by_cases i0 : i = 0
          · subst i0
            rw [if_neg (c := Int32.ofNat 0 ≠ 0) (fun h => h rfl), hp, if_pos rfl]
          · rw [if_pos (c := Int32.ofNat i ≠ 0) (fun h => by have := congrArg Int32.toInt h; rw [zz_ofN (by omega), i_0] at this; omega), cb_pred (by omega) (by omega), zz_toN (by omega), hp, if_neg i0]
        rw [em]
        unfold fn_247_62
        rw [h1, zz_toN (by omega)]
        have fin : ∀ x : Int32, (i + 1 ≤ N → x = Y 546 i) → ∃ s' t', fn_119_93 X c p q r (Int32.ofNat i) x = .inl s' ∧ fn_247_85 Y c q r (Int32.ofNat i) p x = .inl t' ∧ ∃ i2 : Nat, i2 + n' = N + 1 ∧ (i2 ≤ N → s'.1 = if i2 = 0 then 0 else Y 546 (i2 - 1)) ∧ s'.2.1 = t'.1 ∧ s'.2.2.1 = t'.2.1 ∧ s'.2.2.2 = Int32.ofNat i2 ∧ t'.2.2 = Int32.ofNat i2 := by
          intro x hx
          unfold fn_119_93 fn_119_116 fn_247_85 fn_247_108
          rw [aa_succ]
          by_cases z : x - p ≤ r
          · rw [if_pos z, if_neg (c := r < x - p) (fun h => Int32.not_le.mpr h z)]
            exact ⟨_, _, rfl, rfl, i + 1, by omega, fun h => by rw [if_neg (by omega), Nat.add_sub_cancel]; exact hx h, rfl, rfl, rfl, rfl⟩
          · rw [if_neg z, if_pos (c := r < x - p) (Int32.not_le.mp z)]
            exact ⟨_, _, rfl, rfl, i + 1, by omega, fun h => by rw [if_neg (by omega), Nat.add_sub_cancel]; exact hx h, rfl, rfl, rfl, rfl⟩
        by_cases z : i = N
        · subst z
          rw [if_pos (aa_le32.mpr (Int.le_refl _)), if_neg (c := Int32.ofNat i ≠ Int32.ofNat i) (fun h => h rfl)]
          exact .inl (fin 86400 (fun h => by omega))
        · rw [if_neg (c := Int32.ofNat N ≤ Int32.ofNat i) (fun z => by have := aa_le32.mp z; rw [zz_ofN (by omega), zz_ofN (by omega)] at this; omega), if_pos (c := Int32.ofNat i ≠ Int32.ofNat N) (fun h => by have := congrArg Int32.toInt h; rw [zz_ofN (by omega), zz_ofN (by omega)] at this; omega), (hv i (by omega)).1]
          exact .inl (fin _ (fun _ => rfl))
      · rintro ⟨p, q, r, j⟩ ⟨q', r', j'⟩ ⟨i, r1, r2, r3, r4, r5, r6⟩
        dsimp only at r2 r3 r4 r5 r6 ⊢
        subst r3 r4 r5 r6
        have k1 : Int32.ofNat N < Int32.ofNat i := ti_lt.mpr (by rw [zz_ofN (by omega), zz_ofN (by omega)]; omega)
        unfold fn_119_54b fn_247_35b
        rw [h0, h1, if_pos k1, if_pos k1]
        by_cases k0 : c = 0
        · rw [if_neg (fun z => z k0), if_neg (fun z => z k0)]
          exact ⟨_, _, rfl, rfl, rfl⟩
        · rw [if_pos k0, if_pos k0]
          exact ⟨_, _, rfl, rfl, rfl⟩
    · have E1 : (fn_119 g a b c).1 = -1 := by
        unfold fn_119
        rw [c1]
        dsimp only
        simp only [gd_91z W, ne_eq, ti_77z, ti_193z, ti_14z, ti_154z, gd_66z, gd_199z, Decidable.not_not, i_0, i_1, i_2, i_3, i_11, i_12n, i_15, i_23, i_60, i_360, i_864, i_8640, i_35, eq_self, not_true_eq_false, not_false_eq_true, and_self, or_self, if_true, if_false]
        repeat' split
        all_goals first | rfl | (exfalso; omega)
      have E2 : (fn_247 g2 a b c).1 = -1 := by
        unfold fn_247
        simp only [gd_191z W2, gd_192z W2, ti_204 W2.2.1, ne_eq, ti_77z, ti_193z, ti_14z, ti_154z, gd_66z, gd_199z, Decidable.not_not, i_0, i_1, i_2, i_3, i_11, i_12n, i_15, i_23, i_60, i_360, i_864, i_8640, i_35, eq_self, not_true_eq_false, not_false_eq_true, and_self, or_self, if_true, if_false, e0, e1, ha]
        repeat' split
        all_goals first | rfl | (exfalso; omega)
      rw [E1, E2]
  · have E1 : (fn_119 g a b c).1 = -1 := by
      unfold fn_119
      simp only [gt_n W ha]
    have E2 : (fn_247 g2 a b c).1 = -1 := by
      unfold fn_247
      simp only [gd_191z W2, gd_192z W2, ti_204 W2.2.1, ne_eq, ti_77z, ti_193z, ti_14z, ti_154z, gd_66z, gd_199z, Decidable.not_not, i_0, i_1, i_2, i_3, i_11, i_12n, i_15, i_23, i_60, i_360, i_864, i_8640, i_35, eq_self, not_true_eq_false, not_false_eq_true, and_self, or_self, if_true, if_false, e0, e1]
      repeat' split
      all_goals first | rfl | (exfalso; omega)
    rw [E1, E2]
