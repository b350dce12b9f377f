/-! (98, 241): both sides say the same -/
/-- the twelve hours' common divisor with a length, by what the length leaves over by 12 -/
def ex_F (r n : Nat) (c : Int32) : Int32 := if 12 % n = 0 ∧ r % n = 0 then Int32.ofNat n else c
def ex_G (r : Nat) : Int32 := fd_i (ex_F r) 2 11 1
def ex_E : Nat → Int32 × Int32 → Option Int32
  | 0, _ => none
  | n + 1, s => if s.2 = 0 then some s.1 else ex_E n (s.2, s.1 - s.1 / s.2 * s.2)
theorem ex_EG : ∀ r, r < 12 → ex_E 8 (12, Int32.ofNat r) = some (ex_G r) := by decide +kernel
theorem ex_12 : ∀ n, n < 13 → 2 ≤ n → (12 - 12 / Int32.ofNat n * Int32.ofNat n = 0 ↔ 12 % n = 0) := by decide +kernel
theorem ex_run {Z : aa_G} {k : Int32} : ∀ (n : Nat) (s : Int32 × Int32) (c : Int32), ex_E n s = some c → fn_241_53 Z k s.1 s.2 = (if k ≠ 0 then 12 / c else Z 540 18 / c, Z) := by
  intro n
  induction n with
  | zero => intro s c h; cases h
  | succ n ih =>
    intro s c h
    obtain ⟨x, y⟩ := s
    unfold ex_E at h
    dsimp only at h ⊢
    by_cases z : y = 0
    · rw [if_pos z] at h
      cases h
      unfold fn_241_53
      refine lp_r ?_
      dsimp only
      unfold fn_241_53b
      rw [if_pos z]
      by_cases k0 : k = 0
      · rw [if_neg (fun h => h k0), if_neg (fun h => h k0)]
      · rw [if_pos k0, if_pos k0]
    · rw [if_neg z] at h
      rw [← ih _ _ h]
      unfold fn_241_53
      refine lp_l ?_
      dsimp only
      unfold fn_241_53b
      rw [if_neg z]
theorem ex_c {Y : aa_G} {k : Int32} (hl : 1 ≤ (Y 461 4).toInt) : (fn_98_73 Y k 1 2).1 = if k ≠ 0 then 12 / ex_G ((Y 461 4).toInt % 12).toNat else Y 461 4 / ex_G ((Y 461 4).toInt % 12).toNat := by
  unfold fn_98_73
  exact hp_loop (B := fun z : (Int32 × Int32) => fn_98_73b Y k z.1 z.2) (dd := (0, Y)) (enc := fun _ (s : Int32) d => (s, Int32.ofNat d)) (F := ex_F ((Y 461 4).toInt % 12).toNat) (E := fun c => if k ≠ 0 then 12 / c else Y 461 4 / c) (n := 13) (P := fun _ => True) (I := fun d _ => 2 ≤ d)
    (fun X s d _ i hd => by
      refine ⟨X, ?_, trivial, Nat.le_succ_of_le i⟩
      show fn_98_73b Y k s (Int32.ofNat d) = .inl (ex_F ((Y 461 4).toInt % 12).toNat d s, Int32.ofNat (d + 1))
      unfold fn_98_73b fn_98_105 ex_F
      have hr : (Y 461 4 - Y 461 4 / Int32.ofNat d * Int32.ofNat d).toInt = (Y 461 4).toInt % d := by rw [ti_rem (by omega) (by rw [zz_ofN (by omega)]; omega), zz_ofN (by omega)]
      have h12 := ex_12 d hd i
      rw [if_neg (c := (12 : Int32) < Int32.ofNat d) (fun z => by have := ti_lt.mp z; rw [i_12n, zz_ofN (by omega)] at this; omega), mb_add d 1 (v := 1) rfl]
      by_cases z1 : 12 % d = 0
      · have dd : ((Y 461 4).toInt % 12).toNat % d = 0 ↔ (Y 461 4).toInt % d = 0 := by
          have hcase : d = 2 ∨ d = 3 ∨ d = 4 ∨ d = 6 ∨ d = 12 := by
            have : d = 2 ∨ d = 3 ∨ d = 4 ∨ d = 5 ∨ d = 6 ∨ d = 7 ∨ d = 8 ∨ d = 9 ∨ d = 10 ∨ d = 11 ∨ d = 12 := by omega
            rcases this with rfl | rfl | rfl | rfl | rfl | rfl | rfl | rfl | rfl | rfl | rfl <;> revert z1 <;> decide
          rcases hcase with rfl | rfl | rfl | rfl | rfl <;> omega
        rw [if_neg (c := 12 - 12 / Int32.ofNat d * Int32.ofNat d ≠ 0) (fun z => z (h12.mpr z1))]
        by_cases z2 : (Y 461 4).toInt % d = 0
        · rw [if_neg (c := Y 461 4 - Y 461 4 / Int32.ofNat d * Int32.ofNat d ≠ 0) (fun z => z (ti_eq.mpr (by rw [hr, z2]; rfl))), if_pos ⟨z1, dd.mpr z2⟩]
        · rw [if_pos (c := Y 461 4 - Y 461 4 / Int32.ofNat d * Int32.ofNat d ≠ 0) (fun z => z2 (by have := ti_eq.mp z; rw [hr] at this; exact this)), if_neg (fun h => z2 (dd.mp h.2))]
      · rw [if_pos (c := 12 - 12 / Int32.ofNat d * Int32.ofNat d ≠ 0) (fun z => z1 (h12.mp z)), if_neg (fun h => z1 h.1)])
    (fun X s _ _ => by
      refine ⟨Y, ?_⟩
      show fn_98_73b Y k s (Int32.ofNat 13) = _
      unfold fn_98_73b
      rw [if_pos (c := (12 : Int32) < Int32.ofNat 13) (by decide)]
      by_cases k0 : k = 0
      · rw [if_neg (fun h => h k0), if_neg (fun h => h k0)]
      · rw [if_pos k0, if_pos k0]) 11 2 Y 1 trivial (Nat.le_refl 2) rfl
theorem ak_98 {g g2 : aa_G} (W : wd_g g) (W2 : wd_g g2) (e : g2 541 = g 541) (a b h k : Int32) : (fn_98 g a b h k).1 = (fn_241 g2 a b h k).1 := by
  have e0 : g2 541 0 = g 541 0 := by rw [e]
  have e1 : g2 541 1 = g 541 1 := by rw [e]
  by_cases ha : 0 ≤ a.toInt ∧ a.toInt < (g 541 0).toInt
  · obtain ⟨t, ht, hat, ht2, c1, -⟩ := gt_s W ha
    by_cases hG : (0 ≤ b.toInt ∧ b.toInt ≤ 35999) ∧ (0 ≤ h.toInt ∧ h.toInt ≤ 1) ∧ (0 ≤ k.toInt ∧ k.toInt ≤ 1)
    · have hG0 := hG
      obtain ⟨hb, hh, hk⟩ := hG0
      have E1 : fn_98 g a b h k = fn_98_54 (fn_78 g 461 (some (5 * t + 14)) b h) k := by
        unfold fn_98
        rw [c1]
        dsimp only
        simp only [gd_91z W, ne_eq, ti_77z, ti_193z, ti_14z, ti_154z, gd_66z, gd_199z, Decidable.not_not, i_0, i_1, i_2, i_3, i_11, i_12n, i_15, i_23, i_60, i_360, i_864, i_8640, i_35, eq_self, not_true_eq_false, not_false_eq_true, and_self, or_self, if_true, if_false, hb, hh, hk]
      have E2 : fn_241 g2 a b h k = fn_241_37 (fn_194 g2 a b h).2 k (fn_194 g2 a b h).1 := by
        unfold fn_241
        simp only [gd_191z W2, gd_192z W2, ti_204 W2.2.1, ne_eq, ti_77z, ti_193z, ti_14z, ti_154z, gd_66z, gd_199z, Decidable.not_not, i_0, i_1, i_2, i_3, i_11, i_12n, i_15, i_23, i_60, i_360, i_864, i_8640, i_35, eq_self, not_true_eq_false, not_false_eq_true, and_self, or_self, if_true, if_false, e0, e1, ha, hb, hh, hk]
      rw [E1, E2]
      rw [hat]
      obtain ⟨-, -, -, v1, -⟩ := lv_look 461 b h W ht2 (by omega) (h01 hh)
      obtain ⟨-, -, -, v2⟩ := lv_half b h W2 (by rw [e0]; exact ht2) (h01 hh)
      rw [e] at v2
      generalize fn_78 g 461 (some (5 * t + 14)) b h = Y at v1 ⊢
      generalize fn_194 g2 (Int32.ofNat t) b h = Z at v2 ⊢
      unfold fn_98_54 fn_241_37
      cases hq : hv_t (g 541) t b.toInt h.toInt with
      | none =>
        rw [hq] at v1 v2
        simp only [lv_c0 v1, lv_m0 v2, ne_eq, eq_self, not_true_eq_false, if_false]
      | some r =>
        obtain ⟨u, l⟩ := r
        rw [hq] at v1 v2
        have hl := hv_bb W ht2 hq
        have y4 : (Y 461 4).toInt = l := v1.2.2
        simp only [lv_c1 v1, lv_m1 v2, i_10, ne_eq, not_false_eq_true, if_true]
        rw [ex_c (by omega)]
        have st : fn_241_53 Z.2 k (Z.2 540 18) 12 = fn_241_53 Z.2 k 12 (Int32.ofNat ((Y 461 4).toInt % 12).toNat) := by
          unfold fn_241_53
          refine lp_l ?_
          dsimp only
          unfold fn_241_53b
          rw [if_neg (c := (12 : Int32) = 0) (by decide), ← lv_4 v1 v2, show Y 461 4 - Y 461 4 / 12 * 12 = Int32.ofNat ((Y 461 4).toInt % 12).toNat from aa_eqN (by rw [ti_rem (by omega) (by decide), i_12n]; omega) (by omega)]
        rw [st, ex_run 8 (12, Int32.ofNat ((Y 461 4).toInt % 12).toNat) _ (ex_EG _ (by omega)), ← lv_4 v1 v2]
    · have E1 : (fn_98 g a b h k).1 = -1 := by
        unfold fn_98
        rw [c1]
        dsimp only
        simp only [gd_91z W, ne_eq, ti_77z, ti_193z, ti_14z, ti_154z, gd_66z, gd_199z, Decidable.not_not, i_0, i_1, i_2, i_3, i_11, i_12n, i_15, i_23, i_60, i_360, i_864, i_8640, i_35, eq_self, not_true_eq_false, not_false_eq_true, and_self, or_self, if_true, if_false]
        repeat' split
        all_goals first | rfl | (exfalso; omega)
      have E2 : (fn_241 g2 a b h k).1 = -1 := by
        unfold fn_241
        simp only [gd_191z W2, gd_192z W2, ti_204 W2.2.1, ne_eq, ti_77z, ti_193z, ti_14z, ti_154z, gd_66z, gd_199z, Decidable.not_not, i_0, i_1, i_2, i_3, i_11, i_12n, i_15, i_23, i_60, i_360, i_864, i_8640, i_35, eq_self, not_true_eq_false, not_false_eq_true, and_self, or_self, if_true, if_false, e0, e1, ha]
        repeat' split
        all_goals first | rfl | (exfalso; omega)
      rw [E1, E2]
  · have E1 : (fn_98 g a b h k).1 = -1 := by
      unfold fn_98
      simp only [gt_n W ha]
    have E2 : (fn_241 g2 a b h k).1 = -1 := by
      unfold fn_241
      simp only [gd_191z W2, gd_192z W2, ti_204 W2.2.1, ne_eq, ti_77z, ti_193z, ti_14z, ti_154z, gd_66z, gd_199z, Decidable.not_not, i_0, i_1, i_2, i_3, i_11, i_12n, i_15, i_23, i_60, i_360, i_864, i_8640, i_35, eq_self, not_true_eq_false, not_false_eq_true, and_self, or_self, if_true, if_false, e0, e1]
      repeat' split
      all_goals first | rfl | (exfalso; omega)
    rw [E1, E2]
theorem lq_98 {g : aa_G} {a0 a1 a2 a3 : Int32} (hi : aa_inv g) (hφ : aa_Phi g) (hR : lr_R g) : lq_ok true 98 241 [.int a0, .int a1, .int a2, .int a3] g :=
  lq_ask (y := fn_241 (fn_98 g a0 a1 a2 a3).2 a0 a1 a2 a3) hi hφ hR (ko_fw (ko_98 hi hφ) fun _ _ _ r => dn_98 r) (fun i1 p1 => ko_fw (ko_241 i1 p1) fun _ _ _ r => dn_241 r) (by decide +kernel) (by decide +kernel) (by decide +kernel) (by decide +kernel) (by decide +kernel) (by decide +kernel) fun W W2 e => ak_98 W W2 e a0 a1 a2 a3
