/-! ANOTHER TOWN'S TIME (93, 207): both sides say the same -/
theorem ko_f0 {m : Nat} {as : List Value} {g : aa_G} {E : Int32} (hi : aa_inv g) (hφ : aa_Phi g) (f : zz_fin none m (0, zz_in as (zz_nl m), [], aa_H g) (fun v h => v = some (.int E) ∧ h = aa_H g)) : zz_fin none m (0, zz_in as (zz_nl m), [], aa_H g) (fun v h => v = some (.int (E, g).1) ∧ h = aa_H (E, g).2 ∧ aa_inv (E, g).2 ∧ aa_Phi (E, g).2 ∧ aa_fr [] g (E, g).2) :=
  zz_fin.mono f fun v h k => ⟨k.1, k.2, hi, hφ, aa_fr.rf⟩
theorem l_fl {X : Int64} (h1 : -4611686018427387904 ≤ X.toInt) (h2 : X.toInt ≤ 4611686018427387904) : (X / 86400).toInt = (if 0 ≤ X.toInt then X.toInt / 86400 else -((-X.toInt) / 86400)) := by
  have t : (86400 : Int64).toInt = 86400 := rfl
  by_cases z : 0 ≤ X.toInt
  · rw [if_pos z, l_div z (by rw [t]; omega), t]
  · rw [if_neg z, Int64.toInt_div, t]
    have e : X.toInt.tdiv 86400 = -((-X.toInt) / 86400) := by
      have k : (-(-X.toInt)).tdiv 86400 = -((-X.toInt).tdiv 86400) := Int.neg_tdiv ..
      rw [Int.neg_neg] at k
      rw [k, Int.tdiv_eq_ediv_of_nonneg (by omega)]
    rw [e, l_bm (by omega) (by omega)]
/-- the model's floor -/
theorem l_floor {g : aa_G} {X p q : Int64} (h1 : -4611686018427387904 ≤ X.toInt) (h2 : X.toInt ≤ 4611686018427387904) (G : aa_G) (hG : G = if 0 ≤ lg_cmp X ((X / 86400) * 86400) then fn_208_54 g p q X (X / 86400) (X / 86400) else fn_208_54 g p q X (X / 86400) ((X / 86400) - 1)) : ∃ s : Int64, s.toInt = X.toInt / 86400 ∧ G = fn_208_54 g p q X (X / 86400) s := by
  have t : (86400 : Int64).toInt = 86400 := rfl
  have t1 : (1 : Int64).toInt = 1 := rfl
  have e := l_fl h1 h2
  have hb : -4611686018427387904 ≤ (X / 86400).toInt ∧ (X / 86400).toInt * 86400 ≤ 4611686018427387904 ∧ -4611686018427387904 ≤ (X / 86400).toInt * 86400 := by
    rw [e]
    split <;> omega
  have e2 : ((X / 86400) * 86400).toInt = (X / 86400).toInt * 86400 := by rw [l_mul (by rw [t]; omega) (by rw [t]; omega), t]
  by_cases z : 0 ≤ lg_cmp X ((X / 86400) * 86400)
  · have z2 := l_cmp.mp z
    rw [if_pos z] at hG
    refine ⟨X / 86400, ?_, hG⟩
    rw [e2, e] at z2
    rw [e]
    by_cases y : 0 ≤ X.toInt
    · rw [if_pos y]
    · rw [if_neg y] at z2 ⊢
      omega
  · have z2 := mt l_cmp.mpr z
    rw [if_neg z] at hG
    refine ⟨X / 86400 - 1, ?_, hG⟩
    rw [e2, e] at z2
    rw [l_sub (by rw [t1]; omega) (by rw [t1]; omega), e, t1]
    by_cases y : 0 ≤ X.toInt
    · rw [if_pos y] at z2
      omega
    · rw [if_neg y] at z2 ⊢
      omega
theorem mk_208 {g : aa_G} {t t2 : Nat} {b c : Int32} (W : wd_g g) (ht : (t : Int) < (g 541 0).toInt) (ht2 : (t2 : Int) < (g 541 0).toInt) (hb : 0 ≤ b.toInt ∧ b.toInt ≤ 35999) (hc : 0 ≤ c.toInt ∧ c.toInt ≤ 86399) : ((fn_208 g (Int32.ofNat t) b.toInt64 c.toInt64 (Int32.ofNat t2)) 540 22).toInt = b.toInt + (c.toInt + ((g 541 (50 * t2 + 3)).toInt - (g 541 (50 * t + 3)).toInt)) / 86400 ∧ ((fn_208 g (Int32.ofNat t) b.toInt64 c.toInt64 (Int32.ofNat t2)) 540 23).toInt = (c.toInt + ((g 541 (50 * t2 + 3)).toInt - (g 541 (50 * t + 3)).toInt)) % 86400 := by
  have n4 := W.1
  have o1 := (W.2.2.2.2.2 t ht).2.2.1
  have o2 := (W.2.2.2.2.2 t2 ht2).2.2.1
  have t0 : (86400 : Int64).toInt = 86400 := rfl
  have e9 : fn_209 g (Int32.ofNat t) = g 541 (50 * t + 3) := by
    unfold fn_209
    rw [ml_ta, zz_toN (by omega)]
  have e9' : fn_209 g (Int32.ofNat t2) = g 541 (50 * t2 + 3) := by
    unfold fn_209
    rw [ml_ta, zz_toN (by omega)]
  generalize hG : fn_208 g (Int32.ofNat t) b.toInt64 c.toInt64 (Int32.ofNat t2) = G
  unfold fn_208 at hG
  rw [e9, e9'] at hG
  have x1 : (b.toInt64 * 86400).toInt = b.toInt * 86400 := by rw [l_mul (by rw [t0, l_of]; omega) (by rw [t0, l_of]; omega), t0, l_of]
  have x2 : (b.toInt64 * 86400 + c.toInt64).toInt = b.toInt * 86400 + c.toInt := by rw [l_add (by rw [x1, l_of]; omega) (by rw [x1, l_of]; omega), x1, l_of]
  have x3 : (b.toInt64 * 86400 + c.toInt64 - (g 541 (50 * t + 3)).toInt64).toInt = b.toInt * 86400 + c.toInt - (g 541 (50 * t + 3)).toInt := by rw [l_sub (by rw [x2, l_of]; omega) (by rw [x2, l_of]; omega), x2, l_of]
  have x4 : (b.toInt64 * 86400 + c.toInt64 - (g 541 (50 * t + 3)).toInt64 + (g 541 (50 * t2 + 3)).toInt64).toInt = b.toInt * 86400 + c.toInt - (g 541 (50 * t + 3)).toInt + (g 541 (50 * t2 + 3)).toInt := by rw [l_add (by rw [x3, l_of]; omega) (by rw [x3, l_of]; omega), x3, l_of]
  generalize b.toInt64 * 86400 + c.toInt64 - (g 541 (50 * t + 3)).toInt64 + (g 541 (50 * t2 + 3)).toInt64 = X at hG x4
  obtain ⟨s, hs, hG2⟩ := l_floor (by omega) (by omega) G hG.symm
  rw [hG2]
  unfold fn_208_54
  rw [aa_w_at, aa_w_ne _ _ (by omega), aa_w_at]
  have y1 : (s * 86400).toInt = s.toInt * 86400 := by rw [l_mul (by rw [t0]; omega) (by rw [t0]; omega), t0]
  have y2 : (X - s * 86400).toInt = X.toInt - s.toInt * 86400 := by rw [l_sub (by omega) (by omega), y1]
  rw [l_to (by omega) (by omega), l_to (by omega) (by omega), y2, hs, x4]
  omega
noncomputable def sp_14 (T : Nat → Int32) (a b c a2 k : Int32) : Int := if ¬ (0 ≤ a.toInt ∧ a.toInt < (T 0).toInt) ∨ ¬ (0 ≤ b.toInt ∧ b.toInt ≤ 35999) ∨ ¬ (0 ≤ c.toInt ∧ c.toInt ≤ 86399) ∨ ¬ (0 ≤ a2.toInt ∧ a2.toInt < (T 0).toInt) ∨ ¬ (0 ≤ k.toInt ∧ k.toInt ≤ 1) then -1000000 else
  if k = 0 then b.toInt + (c.toInt + ((T (50 * a2.toInt.toNat + 3)).toInt - (T (50 * a.toInt.toNat + 3)).toInt)) / 86400 else (c.toInt + ((T (50 * a2.toInt.toNat + 3)).toInt - (T (50 * a.toInt.toNat + 3)).toInt)) % 86400
theorem ck_93 {g : aa_G} (W : wd_g g) (a b c a2 k : Int32) : (fn_93 g a b c a2 k).toInt = sp_14 (g 541) a b c a2 k := by
  have n4 := W.1
  unfold fn_93 sp_14
  rcases ct_at W a with ⟨t, ht, rfl, ht1, e1, -⟩ | ⟨n1, e1, -⟩
  · rcases ct_at W a2 with ⟨t2, ht2, rfl, ht3, e2, -⟩ | ⟨n1, e2, -⟩
    · rw [e1, e2]
      dsimp only
      by_cases zb : fn_77 b = 0
      · rw [if_pos zb, if_pos (.inr (.inl (ti_77z.mp zb)))]
        rfl
      · have hb := ti_77n.mp zb
        rw [if_neg zb]
        by_cases zc : fn_66 c = 0
        · have hc : ¬ (0 ≤ c.toInt ∧ c.toInt ≤ 86399) := ti_14z.mp zc
          rw [if_pos zc, if_pos (.inr (.inr (.inl hc)))]
          rfl
        · have hc : 0 ≤ c.toInt ∧ c.toInt ≤ 86399 := ti_14n.mp zc
          rw [if_neg zc]
          by_cases zk : fn_14 k 0 1 ≠ 0
          · have hk : 0 ≤ k.toInt ∧ k.toInt ≤ 1 := ti_14n.mp zk
            have hz : ¬ (¬ (0 ≤ (Int32.ofNat t).toInt ∧ (Int32.ofNat t).toInt < (g 541 0).toInt) ∨ ¬ (0 ≤ b.toInt ∧ b.toInt ≤ 35999) ∨ ¬ (0 ≤ c.toInt ∧ c.toInt ≤ 86399) ∨ ¬ (0 ≤ (Int32.ofNat t2).toInt ∧ (Int32.ofNat t2).toInt < (g 541 0).toInt) ∨ ¬ (0 ≤ k.toInt ∧ k.toInt ≤ 1)) := by
              rw [zz_ofN (by omega), zz_ofN (by omega)]
              omega
            rw [if_pos zk, if_neg hz, zz_ofN (by omega), zz_ofN (by omega), show ((t : Int).toNat) = t by omega, show ((t2 : Int).toNat) = t2 by omega]
            have w1 := W.2.2.2.2.2 t ht1
            have w2 := W.2.2.2.2.2 t2 ht3
            have o1 := w1.2.2.1
            have o2 := w2.2.2.1
            have d1 : (fn_94 g (5 * t + 14) (5 * t2 + 14)).toInt = (g 541 (50 * t2 + 3)).toInt - (g 541 (50 * t + 3)).toInt := by
              unfold fn_94
              rw [w1.1, w2.1, aa_sub32 (by omega) (by omega)]
            have d2 : (c + fn_94 g (5 * t + 14) (5 * t2 + 14)).toInt = c.toInt + ((g 541 (50 * t2 + 3)).toInt - (g 541 (50 * t + 3)).toInt) := by rw [aa_add32 (by omega) (by omega), d1]
            have t0 : (86400 : Int32).toInt = 86400 := rfl
            by_cases k0 : k = 0
            · rw [if_neg (c := k ≠ 0) (fun z => z k0), if_pos k0]
              have d3 : (fn_82 (c + fn_94 g (5 * t + 14) (5 * t2 + 14)) 86400).toInt = (c.toInt + ((g 541 (50 * t2 + 3)).toInt - (g 541 (50 * t + 3)).toInt)) / 86400 := by rw [ti_82 (by omega) (by decide), d2, t0]
              rw [aa_add32 (by omega) (by omega), d3]
            · rw [if_pos (c := k ≠ 0) k0, if_neg k0, ti_81 (by omega) (by decide), d2, t0]
          · rw [if_neg zk, if_pos (.inr (.inr (.inr (.inr (fun h => zk (ti_14n.mpr h))))))]
            rfl
    · rw [e1, e2, if_pos (.inr (.inr (.inr (.inl n1))))]
      rfl
  · rw [e1, if_pos (.inl n1)]
    cases fn_31 g a2 <;> rfl
theorem mk_207 {g : aa_G} (W : wd_g g) (a b c a2 k : Int32) : (fn_207 g a b c a2 k).1.toInt = sp_14 (g 541) a b c a2 k := by
  have n4 := W.1
  unfold fn_207 sp_14
  rcases ct_at W a with ⟨t, ht, rfl, ht1, -, e1⟩ | ⟨n1, -, e1⟩
  · by_cases hb : 0 ≤ b.toInt ∧ b.toInt ≤ 35999
    · rw [if_neg (c := fn_191 g (Int32.ofNat t) b = 0) (fun z => (ti_191.mp z).elim (fun y => by rw [e1] at y; exact absurd y (by decide)) (fun y => y hb))]
      by_cases zc : fn_199 c = 0
      · have hc : ¬ (0 ≤ c.toInt ∧ c.toInt ≤ 86399) := ti_154z.mp zc
        rw [if_pos zc, if_pos (.inr (.inr (.inl hc)))]
        rfl
      · have hc : 0 ≤ c.toInt ∧ c.toInt ≤ 86399 := ti_154n.mp zc
        rw [if_neg zc]
        rcases ct_at W a2 with ⟨t2, ht2, rfl, ht3, -, e2⟩ | ⟨n1, -, e2⟩
        · rw [if_neg (c := fn_192 g (Int32.ofNat t2) = 0) (by rw [e2]; decide)]
          by_cases zk : fn_154 k 0 1 ≠ 0
          · have hk : 0 ≤ k.toInt ∧ k.toInt ≤ 1 := ti_154n.mp zk
            have hz : ¬ (¬ (0 ≤ (Int32.ofNat t).toInt ∧ (Int32.ofNat t).toInt < (g 541 0).toInt) ∨ ¬ (0 ≤ b.toInt ∧ b.toInt ≤ 35999) ∨ ¬ (0 ≤ c.toInt ∧ c.toInt ≤ 86399) ∨ ¬ (0 ≤ (Int32.ofNat t2).toInt ∧ (Int32.ofNat t2).toInt < (g 541 0).toInt) ∨ ¬ (0 ≤ k.toInt ∧ k.toInt ≤ 1)) := by
              rw [zz_ofN (by omega), zz_ofN (by omega)]
              omega
            obtain ⟨m1, m2⟩ := mk_208 W ht1 ht3 hb hc
            rw [if_pos zk, if_neg hz, zz_ofN (by omega), zz_ofN (by omega), show ((t : Int).toNat) = t by omega, show ((t2 : Int).toNat) = t2 by omega]
            unfold fn_207_50
            by_cases k0 : k = 0
            · rw [if_neg (c := k ≠ 0) (fun z => z k0), if_pos k0]
              exact m1
            · rw [if_pos (c := k ≠ 0) k0, if_neg k0]
              exact m2
          · rw [if_neg zk, if_pos (.inr (.inr (.inr (.inr (fun h => zk (ti_154n.mpr h))))))]
            rfl
        · rw [if_pos (c := fn_192 g a2 = 0) e2, if_pos (.inr (.inr (.inr (.inl n1))))]
          rfl
    · rw [if_pos (c := fn_191 g (Int32.ofNat t) b = 0) (ti_191.mpr (.inr hb)), if_pos (.inr (.inl hb))]
      rfl
  · rw [if_pos (c := fn_191 g a b = 0) (ti_191.mpr (.inl e1)), if_pos (.inl n1)]
    rfl
theorem lq_93 {g : aa_G} {a0 a1 a2 a3 a4 : Int32} (hi : aa_inv g) (hφ : aa_Phi g) (hR : lr_R g) : lq_ok true 93 207 [.int a0, .int a1, .int a2, .int a3, .int a4] g :=
  lq_ask (y := fn_207 g a0 a1 a2 a3 a4) hi hφ hR (ko_f0 hi hφ (ko_fi (ko_93 hi hφ) fun _ _ _ r => dn_93 r)) (fun i1 p1 => ko_fw (ko_207 i1 p1) fun _ _ _ r => dn_207 r) (by decide +kernel) (by decide +kernel) (by decide +kernel) (by decide +kernel) (by decide +kernel) (by decide +kernel) fun W W2 e => ti_eq.mpr (by show (fn_93 g a0 a1 a2 a3 a4).toInt = _; rw [ck_93 W, mk_207 W])
