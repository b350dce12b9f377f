/-! BELL: a BELL's numbers are the same on both sides -/
theorem bk_f {g : aa_G} {N k : Nat} (hk : k < N) (hN : N ≤ 8) (hB : ∀ k, k < N → br_1 g (fun q => g 541 (399 * 0 + (203 + q))) (fun q => g 541 (399 * 0 + (259 + q))) 2 k) : g 5 k = g 541 (203 + 7 * k) ∧ g 6 k = g 541 (203 + 7 * k + 1) ∧ g 7 k = g 541 (203 + 7 * k + 2) ∧ g 8 k = g 541 (203 + 7 * k + 3) ∧ g 10 k = g 541 (203 + 7 * k + 4) := by
  obtain ⟨F, T0, ts, c0, cs, b1, b2, -⟩ := hB k hk
  have u0 : g 541 (399 * 0 + (203 + 7 * k)) = F.1 := b2.1.1
  have u1 : g 541 (399 * 0 + (203 + (7 * k + 1))) = F.2.1 := b2.1.2.1
  have u2 : g 541 (399 * 0 + (203 + (7 * k + 2))) = F.2.2.1 := b2.1.2.2.1
  have u3 : g 541 (399 * 0 + (203 + (7 * k + 3))) = F.2.2.2 := b2.1.2.2.2.1
  have u4 : g 541 (399 * 0 + (203 + (7 * k + 4))) = Int32.ofNat ts.length := b2.1.2.2.2.2.1
  rw [show 399 * 0 + (203 + 7 * k) = 203 + 7 * k by omega] at u0
  rw [show 399 * 0 + (203 + (7 * k + 1)) = 203 + 7 * k + 1 by omega] at u1
  rw [show 399 * 0 + (203 + (7 * k + 2)) = 203 + 7 * k + 2 by omega] at u2
  rw [show 399 * 0 + (203 + (7 * k + 3)) = 203 + 7 * k + 3 by omega] at u3
  rw [show 399 * 0 + (203 + (7 * k + 4)) = 203 + 7 * k + 4 by omega] at u4
  obtain ⟨w0, w1, w2, w3, -, w5⟩ := b1.1
  have w0 : g 5 k = F.1 := w0
  have w1 : g 6 k = F.2.1 := w1
  have w2 : g 7 k = F.2.2.1 := w2
  have w3 : g 8 k = F.2.2.2 := w3
  have w5 : g 10 k = Int32.ofNat ts.length := w5
  exact ⟨w0.trans u0.symm, w1.trans u1.symm, w2.trans u2.symm, w3.trans u3.symm, w5.trans u4.symm⟩
theorem bk_n {k j : Nat} {a : Int32} (hk : k < 8) (hj : j ≤ 4) (h : a.toInt = (j : Int)) : ((203 + (7 * Int32.ofNat k)) + a).toNatClampNeg = 203 + 7 * k + j := by
  have e : a = Int32.ofNat j := aa_eqN h (by omega)
  rw [e, mb_7 (by omega), show (203 : Int32) + Int32.ofNat (7 * k) = Int32.ofNat (203 + 7 * k) from i_add 203 (7 * k), i_add, zz_toN (by omega)]
theorem ak_83 {g : aa_G} (B : br_B g g 2 0) (hb : g 4 0 = g 541 2) (a0 a1 : Int32) : fn_83 g a0 a1 = fn_189 g a0 a1 := by
  obtain ⟨N, hN, m0, hB⟩ := B
  have m0 : g 4 0 = Int32.ofNat N := m0
  have q2 : (2 : Int32).toNatClampNeg = 2 := by decide
  have i0 : (0 : Int32).toInt = 0 := rfl
  have i4 : (4 : Int32).toInt = 4 := rfl
  unfold fn_83 fn_84 fn_189
  rw [q2, ← hb]
  by_cases z : (0 : Int32).toInt ≤ a0.toInt ∧ a0.toInt ≤ (g 4 0 - 1).toInt
  · rw [if_pos (ti_14n.mpr z), if_neg (c := fn_154 a0 0 (g 4 0 - 1) = 0) (ti_154n.mpr z)]
    rcases Nat.eq_zero_or_pos N with h | h
    · rw [m0, h, show (Int32.ofNat 0 - 1 : Int32).toInt = -1 by decide, i0] at z
      omega
    · rw [m0, cb_pred h (by omega), zz_ofN (by omega), i0] at z
      obtain ⟨k, k1, k2, k3⟩ := ti_nat z.1
      have hk : k < N := by omega
      obtain ⟨f0, f1, f2, f3, f4⟩ := bk_f hk hN hB
      rw [k2, zz_toN (by omega)]
      by_cases c0 : a1.toInt = 0
      · rw [if_pos c0, if_neg (ti_154n.mpr ⟨by rw [i0]; omega, by rw [i4]; omega⟩), bk_n (j := 0) (by omega) (by omega) c0]
        exact f0
      rw [if_neg c0]
      by_cases c1 : a1.toInt = 1
      · rw [if_pos c1, if_neg (ti_154n.mpr ⟨by rw [i0]; omega, by rw [i4]; omega⟩), bk_n (j := 1) (by omega) (by omega) c1]
        exact f1
      rw [if_neg c1]
      by_cases c2 : a1.toInt = 2
      · rw [if_pos c2, if_neg (ti_154n.mpr ⟨by rw [i0]; omega, by rw [i4]; omega⟩), bk_n (j := 2) (by omega) (by omega) c2]
        exact f2
      rw [if_neg c2]
      by_cases c3 : a1.toInt = 3
      · rw [if_pos c3, if_neg (ti_154n.mpr ⟨by rw [i0]; omega, by rw [i4]; omega⟩), bk_n (j := 3) (by omega) (by omega) c3]
        exact f3
      rw [if_neg c3]
      by_cases c4 : a1.toInt = 4
      · rw [if_pos c4, if_neg (ti_154n.mpr ⟨by rw [i0]; omega, by rw [i4]; omega⟩), bk_n (j := 4) (by omega) (by omega) c4]
        exact f4
      rw [if_neg c4, if_pos (ti_154z.mpr fun y => by rw [i0, i4] at y; omega)]
  · rw [if_neg (fun y => z (ti_14n.mp y)), if_pos (ti_154z.mpr z)]
