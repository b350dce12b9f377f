/-! (140, 251): both sides say the same -/
theorem i_lc {a b c : Int32} : a + (b + c) = b + (a + c) := by rw [← Int32.add_assoc, Int32.add_comm a b, Int32.add_assoc]
theorem i_ng {a b : Int32} : -(a + b) = -a + -b := by rw [Int32.neg_add, Int32.sub_eq_add_neg]
theorem i_lag {s b p q : Int32} : s - b - (q - p) = s - q - b + p := by
  simp only [Int32.sub_eq_add_neg, i_ng, Int32.neg_neg, Int32.add_assoc, Int32.add_comm, i_lc]
theorem of_209 {g : aa_G} (t : Nat) (ht : t < 4) : fn_209 g (Int32.ofNat t) = g 541 (50 * t + 3) := by
  unfold fn_209
  rw [ml_ta, zz_toN (by omega)]
theorem neg_1 : (-1 : Int32) < 0 := by decide
theorem neg_2 : (-2 : Int32) < 0 := by decide
theorem ak_140 {g g2 : aa_G} (W : wd_g g) (W2 : wd_g g2) (e : g2 541 = g 541) (a b h n : Int32) : (fn_140 g a b h n).1 = (fn_251 g2 a b h n).1 := by
  have e0 : g2 541 0 = g 541 0 := by rw [e]
  have e1 : g2 541 1 = g 541 1 := by rw [e]
  rcases gk_at W a with ⟨t1, t2, ⟨ht1, hat1, hu1⟩, ⟨ht2, hat2, hu2⟩, ⟨c1, c2⟩, ha1, ha2, ha3⟩ | ⟨c1, hk⟩
  · have k0 : ¬ fn_239 g2 a = 0 := fun z => (gd_239z W2).mp z (by rw [e0]; exact ⟨ha1, ha2, ha3⟩)
    have f1 := fr_90 W (a / 4) b h n
    have W3 : wd_g (fn_90 g (a / 4) b h n).2 := wd_of W (fun k j z => f1 k j (by omega))
    have e3 : (fn_90 g (a / 4) b h n).2 541 = g 541 := funext fun j => f1 541 j (by omega)
    have v1 := ck_90 W (a / 4) b h n
    have v2 := ck_90 W3 (a - a / 4 * 4) b h n
    rw [e3] at v2
    have f2 := fr_90 W3 (a - a / 4 * 4) b h n
    unfold fn_140
    rw [c1, c2]
    dsimp only
    unfold fn_140_38 fn_140_51
    rw [v1, v2]
    by_cases hG : (0 ≤ b.toInt ∧ b.toInt ≤ 35999) ∧ (0 ≤ h.toInt ∧ h.toInt ≤ 1) ∧ (0 ≤ n.toInt ∧ n.toInt ≤ 12 * (g 541 1).toInt - 1)
    · have hG0 := hG
      obtain ⟨hb, hh, hn⟩ := hG0
      have n1 : (a / 4).toInt.toNat = t1 := by rw [hat1, zz_ofN (by omega)]; omega
      have n2 : (a - a / 4 * 4).toInt.toNat = t2 := by rw [hat2, zz_ofN (by omega)]; omega
      have p1 : sp_90 (g 541) (a / 4) b h n = sp_b (g 541 1) n (hv_t (g 541) t1 b.toInt h.toInt) := by
        unfold sp_90
        rw [if_neg (by omega), n1]
      have p2 : sp_90 (g 541) (a - a / 4 * 4) b h n = sp_b (g 541 1) n (hv_t (g 541) t2 b.toInt h.toInt) := by
        unfold sp_90
        rw [if_neg (by omega), n2]
      have E2 : fn_251 g2 a b h n = fn_251_40 (fn_205 g2 (a / 4) b h n).2 a b h n (fn_205 g2 (a / 4) b h n).1 := by
        unfold fn_251
        simp only [k0, ti_204 W2.2.1, ne_eq, ti_77z, ti_193z, ti_14z, ti_154z, gd_66z, gd_199z, Decidable.not_not, i_0, i_1, i_2, i_3, i_11, i_12n, i_15, i_23, i_60, i_360, i_864, i_8640, i_35, eq_self, not_true_eq_false, not_false_eq_true, and_self, or_self, if_true, if_false, e0, e1, hb, hh, hn]
      obtain ⟨q1, r1⟩ := mk_205 (b := b) (h := h) (n := n) W2 (t := t1) (by rw [e0]; exact hu1) hh (by rw [e1]; exact hn)
      have W4 : wd_g (fn_205 g2 (Int32.ofNat t1) b h n).2 := wd_of W2 (fun k j z => r1 k j (by omega))
      have e4 : (fn_205 g2 (Int32.ofNat t1) b h n).2 541 = g 541 := (funext fun j => r1 541 j (by omega)).trans e
      obtain ⟨q2, r2⟩ := mk_205 (b := b) (h := h) (n := n) W4 (t := t2) (by rw [e4]; exact hu2) hh (by rw [e4]; exact hn)
      rw [e] at q1
      rw [e4] at q2
      have e5 : (fn_205 (fn_205 g2 (Int32.ofNat t1) b h n).2 (Int32.ofNat t2) b h n).2 541 = g 541 := (funext fun j => r2 541 j (by omega)).trans e4
      rw [E2, p1, p2]
      unfold fn_251_40 fn_251_53
      rw [hat2, hat1, q1, q2, of_209 t1 ht1, of_209 t2 ht2, e5]
      have b1 := sp_bb (b := b.toInt) (h := h.toInt) W hu1 hn
      have b2 := sp_bb (b := b.toInt) (h := h.toInt) W hu2 hn
      have o : fn_94 (fn_90 (fn_90 g (Int32.ofNat t1) b h n).2 (Int32.ofNat t2) b h n).2 (5 * t1 + 14) (5 * t2 + 14) = g 541 (50 * t2 + 3) - g 541 (50 * t1 + 3) := by
        rw [hat2, hat1] at f2
        rw [hat1] at f1
        unfold fn_94
        rw [f2 _ _ (by omega), f2 _ _ (by omega), f1 _ _ (by omega), f1 _ _ (by omega), (W.2.2.2.2.2 t1 hu1).1, (W.2.2.2.2.2 t2 hu2).1]
      rw [o]
      generalize sp_b (g 541 1) n (hv_t (g 541) t1 b.toInt h.toInt) = p at b1 ⊢
      generalize sp_b (g 541 1) n (hv_t (g 541) t2 b.toInt h.toInt) = q at b2 ⊢
      by_cases z1 : p = -2
      · rw [z1, if_pos neg_2, if_pos rfl]
      · have b1 := b1.resolve_left z1
        rw [if_neg (c := p < 0) (fun z => by have := ti_lt.mp z; rw [i_0] at this; omega), if_neg z1]
        by_cases z2 : q = -2
        · rw [z2, if_neg (c := (0 : Int32) ≤ -2) (by decide), if_neg (c := (-2 : Int32) ≠ -2) (fun z => z rfl)]
        · have b2 := b2.resolve_left z2
          rw [if_pos (c := (0 : Int32) ≤ q) (aa_le32.mpr b2), if_pos (c := q ≠ -2) z2]
          exact i_lag
    · have p1 : sp_90 (g 541) (a / 4) b h n = -1 := by
        unfold sp_90
        rw [if_pos (by omega)]
      have E2 : (fn_251 g2 a b h n).1 = -1000000 := by
        unfold fn_251
        simp only [k0, ti_204 W2.2.1, ne_eq, ti_77z, ti_193z, ti_14z, ti_154z, gd_66z, gd_199z, Decidable.not_not, i_0, i_1, i_2, i_3, i_11, i_12n, i_15, i_23, i_60, i_360, i_864, i_8640, i_35, eq_self, not_true_eq_false, not_false_eq_true, and_self, or_self, if_true, if_false, e0, e1]
        repeat' split
        all_goals first | rfl | (exfalso; omega)
      rw [E2, p1, if_pos neg_1]
  · have E1 : (fn_140 g a b h n).1 = -1000000 := by
      unfold fn_140
      rcases c1 with c1 | c1
      · rw [c1]
        cases fn_134 g a <;> rfl
      · rw [c1]
        cases fn_133 g a <;> rfl
    have k0 : fn_239 g2 a = 0 := (gd_239z W2).mpr (by rw [e0]; exact hk)
    have E2 : (fn_251 g2 a b h n).1 = -1000000 := by
      unfold fn_251
      rw [if_pos k0]
    rw [E1, E2]
theorem lq_140 {g : aa_G} {a0 a1 a2 a3 : Int32} (hi : aa_inv g) (hφ : aa_Phi g) (hR : lr_R g) : lq_ok true 140 251 [.int a0, .int a1, .int a2, .int a3] g :=
  lq_ask (y := fn_251 (fn_140 g a0 a1 a2 a3).2 a0 a1 a2 a3) hi hφ hR (ko_fw (ko_140 hi hφ) fun _ _ _ r => dn_140 r) (fun i1 p1 => ko_fw (ko_251 i1 p1) fun _ _ _ r => dn_251 r) (by decide +kernel) (by decide +kernel) (by decide +kernel) (by decide +kernel) (by decide +kernel) (by decide +kernel) fun W W2 e => ak_140 W W2 e a0 a1 a2 a3
